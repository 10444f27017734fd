section
-- ===== PART A: goes FIRST, ahead of the names: the tables' words, and 'selects' of the private methods out of them =====
/-- a private method of a class that the tables say can be made, by its rows of tables_1 -/
def lw_okq (q : MethodName × Nat) : Prop := (q.1.cls ≠ "java/lang/invoke/MethodHandle" ∧ q.1.cls ≠ "java/lang/invoke/VarHandle") ∧ Cond.instantiable q.1.cls q.2 ∈ tables_1 ∧ Cond.privateMethod q.1 ∈ tables_1 ∧ Cond.instanceMethod q.1 ∈ tables_1
theorem lw_p0 : lw_okq (⟨"StepsBeyond$Reader", "next", "()V"⟩, 9) := ⟨⟨by decide +kernel, by decide +kernel⟩, List.mem_of_getElem? (i := 29) (by decide +kernel), List.mem_of_getElem? (i := 344) (by decide +kernel), List.mem_of_getElem? (i := 345) (by decide +kernel)⟩
theorem lw_p1 : lw_okq (⟨"StepsBeyond$Reader", "takeWord", "()V"⟩, 9) := ⟨⟨by decide +kernel, by decide +kernel⟩, List.mem_of_getElem? (i := 29) (by decide +kernel), List.mem_of_getElem? (i := 351) (by decide +kernel), List.mem_of_getElem? (i := 352) (by decide +kernel)⟩
theorem lw_p2 : lw_okq (⟨"StepsBeyond$Reader", "isHere", "(Ljava/lang/String;)Z"⟩, 9) := ⟨⟨by decide +kernel, by decide +kernel⟩, List.mem_of_getElem? (i := 29) (by decide +kernel), List.mem_of_getElem? (i := 356) (by decide +kernel), List.mem_of_getElem? (i := 357) (by decide +kernel)⟩
theorem lw_p3 : lw_okq (⟨"StepsBeyond$Reader", "takeNumber", "()V"⟩, 9) := ⟨⟨by decide +kernel, by decide +kernel⟩, List.mem_of_getElem? (i := 29) (by decide +kernel), List.mem_of_getElem? (i := 375) (by decide +kernel), List.mem_of_getElem? (i := 376) (by decide +kernel)⟩
theorem lw_p4 : lw_okq (⟨"StepsBeyond$Reader", "pass", "(I)Z"⟩, 9) := ⟨⟨by decide +kernel, by decide +kernel⟩, List.mem_of_getElem? (i := 29) (by decide +kernel), List.mem_of_getElem? (i := 382) (by decide +kernel), List.mem_of_getElem? (i := 383) (by decide +kernel)⟩
theorem lw_p5 : lw_okq (⟨"StepsBeyond$Reader", "readOr", "(I)Z"⟩, 9) := ⟨⟨by decide +kernel, by decide +kernel⟩, List.mem_of_getElem? (i := 29) (by decide +kernel), List.mem_of_getElem? (i := 386) (by decide +kernel), List.mem_of_getElem? (i := 387) (by decide +kernel)⟩
theorem lw_p6 : lw_okq (⟨"StepsBeyond$Reader", "readAnd", "(I)Z"⟩, 9) := ⟨⟨by decide +kernel, by decide +kernel⟩, List.mem_of_getElem? (i := 29) (by decide +kernel), List.mem_of_getElem? (i := 390) (by decide +kernel), List.mem_of_getElem? (i := 391) (by decide +kernel)⟩
theorem lw_p7 : lw_okq (⟨"StepsBeyond$Reader", "readNot", "(I)Z"⟩, 9) := ⟨⟨by decide +kernel, by decide +kernel⟩, List.mem_of_getElem? (i := 29) (by decide +kernel), List.mem_of_getElem? (i := 394) (by decide +kernel), List.mem_of_getElem? (i := 395) (by decide +kernel)⟩
theorem lw_p8 : lw_okq (⟨"StepsBeyond$Reader", "readCompared", "(I)Z"⟩, 9) := ⟨⟨by decide +kernel, by decide +kernel⟩, List.mem_of_getElem? (i := 29) (by decide +kernel), List.mem_of_getElem? (i := 398) (by decide +kernel), List.mem_of_getElem? (i := 399) (by decide +kernel)⟩
theorem lw_p9 : lw_okq (⟨"StepsBeyond$Reader", "readSum", "(I)Z"⟩, 9) := ⟨⟨by decide +kernel, by decide +kernel⟩, List.mem_of_getElem? (i := 29) (by decide +kernel), List.mem_of_getElem? (i := 402) (by decide +kernel), List.mem_of_getElem? (i := 403) (by decide +kernel)⟩
theorem lw_p10 : lw_okq (⟨"StepsBeyond$Reader", "readTerm", "(I)Z"⟩, 9) := ⟨⟨by decide +kernel, by decide +kernel⟩, List.mem_of_getElem? (i := 29) (by decide +kernel), List.mem_of_getElem? (i := 406) (by decide +kernel), List.mem_of_getElem? (i := 407) (by decide +kernel)⟩
theorem lw_p11 : lw_okq (⟨"StepsBeyond$Reader", "readOne", "(I)Z"⟩, 9) := ⟨⟨by decide +kernel, by decide +kernel⟩, List.mem_of_getElem? (i := 29) (by decide +kernel), List.mem_of_getElem? (i := 410) (by decide +kernel), List.mem_of_getElem? (i := 411) (by decide +kernel)⟩
theorem lw_p12 : lw_okq (⟨"StepsBeyond$Reader", "write", "(I)V"⟩, 9) := ⟨⟨by decide +kernel, by decide +kernel⟩, List.mem_of_getElem? (i := 29) (by decide +kernel), List.mem_of_getElem? (i := 414) (by decide +kernel), List.mem_of_getElem? (i := 415) (by decide +kernel)⟩
theorem lw_p13 : lw_okq (⟨"StepsBeyond$Village", "areNear", "(III)Z"⟩, 9) := ⟨⟨by decide +kernel, by decide +kernel⟩, List.mem_of_getElem? (i := 90) (by decide +kernel), List.mem_of_getElem? (i := 457) (by decide +kernel), List.mem_of_getElem? (i := 458) (by decide +kernel)⟩
theorem lw_p14 : lw_okq (⟨"StepsBeyond$Reckoner", "push", "(I)V"⟩, 3) := ⟨⟨by decide +kernel, by decide +kernel⟩, List.mem_of_getElem? (i := 96) (by decide +kernel), List.mem_of_getElem? (i := 476) (by decide +kernel), List.mem_of_getElem? (i := 477) (by decide +kernel)⟩
theorem lw_p15 : lw_okq (⟨"StepsBeyond$Reckoner", "turnTop", "(I)V"⟩, 3) := ⟨⟨by decide +kernel, by decide +kernel⟩, List.mem_of_getElem? (i := 96) (by decide +kernel), List.mem_of_getElem? (i := 480) (by decide +kernel), List.mem_of_getElem? (i := 481) (by decide +kernel)⟩
def lw_privs_1 : List (MethodName × Nat) := [(⟨"StepsBeyond$Reader", "next", "()V"⟩, 9), (⟨"StepsBeyond$Reader", "takeWord", "()V"⟩, 9), (⟨"StepsBeyond$Reader", "isHere", "(Ljava/lang/String;)Z"⟩, 9), (⟨"StepsBeyond$Reader", "takeNumber", "()V"⟩, 9), (⟨"StepsBeyond$Reader", "pass", "(I)Z"⟩, 9), (⟨"StepsBeyond$Reader", "readOr", "(I)Z"⟩, 9), (⟨"StepsBeyond$Reader", "readAnd", "(I)Z"⟩, 9), (⟨"StepsBeyond$Reader", "readNot", "(I)Z"⟩, 9), (⟨"StepsBeyond$Reader", "readCompared", "(I)Z"⟩, 9), (⟨"StepsBeyond$Reader", "readSum", "(I)Z"⟩, 9), (⟨"StepsBeyond$Reader", "readTerm", "(I)Z"⟩, 9), (⟨"StepsBeyond$Reader", "readOne", "(I)Z"⟩, 9), (⟨"StepsBeyond$Reader", "write", "(I)V"⟩, 9), (⟨"StepsBeyond$Village", "areNear", "(III)Z"⟩, 9), (⟨"StepsBeyond$Reckoner", "push", "(I)V"⟩, 3), (⟨"StepsBeyond$Reckoner", "turnTop", "(I)V"⟩, 3)]
theorem lw_r1 : ∀ q ∈ lw_privs_1, lw_okq q := List.forall_mem_cons.mpr ⟨lw_p0, List.forall_mem_cons.mpr ⟨lw_p1, List.forall_mem_cons.mpr ⟨lw_p2, List.forall_mem_cons.mpr ⟨lw_p3, List.forall_mem_cons.mpr ⟨lw_p4, List.forall_mem_cons.mpr ⟨lw_p5, List.forall_mem_cons.mpr ⟨lw_p6, List.forall_mem_cons.mpr ⟨lw_p7, List.forall_mem_cons.mpr ⟨lw_p8, List.forall_mem_cons.mpr ⟨lw_p9, List.forall_mem_cons.mpr ⟨lw_p10, List.forall_mem_cons.mpr ⟨lw_p11, List.forall_mem_cons.mpr ⟨lw_p12, List.forall_mem_cons.mpr ⟨lw_p13, List.forall_mem_cons.mpr ⟨lw_p14, List.forall_mem_cons.mpr ⟨lw_p15, fun _ h => absurd h List.not_mem_nil⟩⟩⟩⟩⟩⟩⟩⟩⟩⟩⟩⟩⟩⟩⟩⟩
theorem lw_p16 : lw_okq (⟨"StepsBeyond$Reckoner", "joinTwo", "(I)V"⟩, 3) := ⟨⟨by decide +kernel, by decide +kernel⟩, List.mem_of_getElem? (i := 96) (by decide +kernel), List.mem_of_getElem? (i := 484) (by decide +kernel), List.mem_of_getElem? (i := 485) (by decide +kernel)⟩
theorem lw_p17 : lw_okq (⟨"StepsBeyond$Village", "spreadFrom", "(II)I"⟩, 9) := ⟨⟨by decide +kernel, by decide +kernel⟩, List.mem_of_getElem? (i := 90) (by decide +kernel), List.mem_of_getElem? (i := 591) (by decide +kernel), List.mem_of_getElem? (i := 592) (by decide +kernel)⟩
theorem lw_p18 : lw_okq (⟨"StepsBeyond", "enforce", "(I)V"⟩, 16) := ⟨⟨by decide +kernel, by decide +kernel⟩, List.mem_of_getElem? (i := 21) (by decide +kernel), List.mem_of_getElem? (i := 621) (by decide +kernel), List.mem_of_getElem? (i := 622) (by decide +kernel)⟩
theorem lw_p19 : lw_okq (⟨"StepsBeyond", "reachOf", "(I)I"⟩, 16) := ⟨⟨by decide +kernel, by decide +kernel⟩, List.mem_of_getElem? (i := 21) (by decide +kernel), List.mem_of_getElem? (i := 645) (by decide +kernel), List.mem_of_getElem? (i := 646) (by decide +kernel)⟩
theorem lw_p20 : lw_okq (⟨"StepsBeyond", "middleOf", "(I)I"⟩, 16) := ⟨⟨by decide +kernel, by decide +kernel⟩, List.mem_of_getElem? (i := 21) (by decide +kernel), List.mem_of_getElem? (i := 650) (by decide +kernel), List.mem_of_getElem? (i := 651) (by decide +kernel)⟩
theorem lw_p21 : lw_okq (⟨"StepsBeyond", "measure", "(LStepsBeyond$Area;I)V"⟩, 16) := ⟨⟨by decide +kernel, by decide +kernel⟩, List.mem_of_getElem? (i := 21) (by decide +kernel), List.mem_of_getElem? (i := 658) (by decide +kernel), List.mem_of_getElem? (i := 659) (by decide +kernel)⟩
theorem lw_p22 : lw_okq (⟨"StepsBeyond$Area", "isInBox", "(II)Z"⟩, 9) := ⟨⟨by decide +kernel, by decide +kernel⟩, List.mem_of_getElem? (i := 253) (by decide +kernel), List.mem_of_getElem? (i := 691) (by decide +kernel), List.mem_of_getElem? (i := 692) (by decide +kernel)⟩
theorem lw_p23 : lw_okq (⟨"StepsBeyond$Area", "isByOne", "(I)Z"⟩, 9) := ⟨⟨by decide +kernel, by decide +kernel⟩, List.mem_of_getElem? (i := 253) (by decide +kernel), List.mem_of_getElem? (i := 696) (by decide +kernel), List.mem_of_getElem? (i := 697) (by decide +kernel)⟩
theorem lw_p24 : lw_okq (⟨"StepsBeyond$Land", "sweepSouth", "([I)Z"⟩, 2) := ⟨⟨by decide +kernel, by decide +kernel⟩, List.mem_of_getElem? (i := 145) (by decide +kernel), List.mem_of_getElem? (i := 733) (by decide +kernel), List.mem_of_getElem? (i := 734) (by decide +kernel)⟩
theorem lw_p25 : lw_okq (⟨"StepsBeyond$Land", "sweepRow", "([II)Z"⟩, 2) := ⟨⟨by decide +kernel, by decide +kernel⟩, List.mem_of_getElem? (i := 145) (by decide +kernel), List.mem_of_getElem? (i := 737) (by decide +kernel), List.mem_of_getElem? (i := 738) (by decide +kernel)⟩
theorem lw_p26 : lw_okq (⟨"StepsBeyond$Land", "sweepNorth", "([I)Z"⟩, 2) := ⟨⟨by decide +kernel, by decide +kernel⟩, List.mem_of_getElem? (i := 145) (by decide +kernel), List.mem_of_getElem? (i := 741) (by decide +kernel), List.mem_of_getElem? (i := 742) (by decide +kernel)⟩
theorem lw_p27 : lw_okq (⟨"StepsBeyond", "isOut", "(I)Z"⟩, 16) := ⟨⟨by decide +kernel, by decide +kernel⟩, List.mem_of_getElem? (i := 21) (by decide +kernel), List.mem_of_getElem? (i := 765) (by decide +kernel), List.mem_of_getElem? (i := 766) (by decide +kernel)⟩
theorem lw_p28 : lw_okq (⟨"StepsBeyond", "whyNot", "(IIII)I"⟩, 16) := ⟨⟨by decide +kernel, by decide +kernel⟩, List.mem_of_getElem? (i := 21) (by decide +kernel), List.mem_of_getElem? (i := 777) (by decide +kernel), List.mem_of_getElem? (i := 778) (by decide +kernel)⟩
theorem lw_p29 : lw_okq (⟨"StepsBeyond", "meetingPlace", "(II)I"⟩, 16) := ⟨⟨by decide +kernel, by decide +kernel⟩, List.mem_of_getElem? (i := 21) (by decide +kernel), List.mem_of_getElem? (i := 794) (by decide +kernel), List.mem_of_getElem? (i := 795) (by decide +kernel)⟩
theorem lw_p30 : lw_okq (⟨"StepsBeyond$Village", "hutJoins", "(II)Z"⟩, 9) := ⟨⟨by decide +kernel, by decide +kernel⟩, List.mem_of_getElem? (i := 90) (by decide +kernel), List.mem_of_getElem? (i := 806) (by decide +kernel), List.mem_of_getElem? (i := 807) (by decide +kernel)⟩
theorem lw_p31 : lw_okq (⟨"StepsBeyond$Village", "hutIsNear", "(II)Z"⟩, 9) := ⟨⟨by decide +kernel, by decide +kernel⟩, List.mem_of_getElem? (i := 90) (by decide +kernel), List.mem_of_getElem? (i := 810) (by decide +kernel), List.mem_of_getElem? (i := 811) (by decide +kernel)⟩
def lw_privs_2 : List (MethodName × Nat) := [(⟨"StepsBeyond$Reckoner", "joinTwo", "(I)V"⟩, 3), (⟨"StepsBeyond$Village", "spreadFrom", "(II)I"⟩, 9), (⟨"StepsBeyond", "enforce", "(I)V"⟩, 16), (⟨"StepsBeyond", "reachOf", "(I)I"⟩, 16), (⟨"StepsBeyond", "middleOf", "(I)I"⟩, 16), (⟨"StepsBeyond", "measure", "(LStepsBeyond$Area;I)V"⟩, 16), (⟨"StepsBeyond$Area", "isInBox", "(II)Z"⟩, 9), (⟨"StepsBeyond$Area", "isByOne", "(I)Z"⟩, 9), (⟨"StepsBeyond$Land", "sweepSouth", "([I)Z"⟩, 2), (⟨"StepsBeyond$Land", "sweepRow", "([II)Z"⟩, 2), (⟨"StepsBeyond$Land", "sweepNorth", "([I)Z"⟩, 2), (⟨"StepsBeyond", "isOut", "(I)Z"⟩, 16), (⟨"StepsBeyond", "whyNot", "(IIII)I"⟩, 16), (⟨"StepsBeyond", "meetingPlace", "(II)I"⟩, 16), (⟨"StepsBeyond$Village", "hutJoins", "(II)Z"⟩, 9), (⟨"StepsBeyond$Village", "hutIsNear", "(II)Z"⟩, 9)]
theorem lw_r2 : ∀ q ∈ lw_privs_2, lw_okq q := List.forall_mem_cons.mpr ⟨lw_p16, List.forall_mem_cons.mpr ⟨lw_p17, List.forall_mem_cons.mpr ⟨lw_p18, List.forall_mem_cons.mpr ⟨lw_p19, List.forall_mem_cons.mpr ⟨lw_p20, List.forall_mem_cons.mpr ⟨lw_p21, List.forall_mem_cons.mpr ⟨lw_p22, List.forall_mem_cons.mpr ⟨lw_p23, List.forall_mem_cons.mpr ⟨lw_p24, List.forall_mem_cons.mpr ⟨lw_p25, List.forall_mem_cons.mpr ⟨lw_p26, List.forall_mem_cons.mpr ⟨lw_p27, List.forall_mem_cons.mpr ⟨lw_p28, List.forall_mem_cons.mpr ⟨lw_p29, List.forall_mem_cons.mpr ⟨lw_p30, List.forall_mem_cons.mpr ⟨lw_p31, fun _ h => absurd h List.not_mem_nil⟩⟩⟩⟩⟩⟩⟩⟩⟩⟩⟩⟩⟩⟩⟩⟩
theorem lw_p32 : lw_okq (⟨"StepsBeyond$Village", "heldNext", "(II)I"⟩, 9) := ⟨⟨by decide +kernel, by decide +kernel⟩, List.mem_of_getElem? (i := 90) (by decide +kernel), List.mem_of_getElem? (i := 822) (by decide +kernel), List.mem_of_getElem? (i := 823) (by decide +kernel)⟩
theorem lw_p33 : lw_okq (⟨"StepsBeyond$Village", "isByOne", "(III)Z"⟩, 9) := ⟨⟨by decide +kernel, by decide +kernel⟩, List.mem_of_getElem? (i := 90) (by decide +kernel), List.mem_of_getElem? (i := 826) (by decide +kernel), List.mem_of_getElem? (i := 827) (by decide +kernel)⟩
theorem lw_p34 : lw_okq (⟨"StepsBeyond", "houseTaken", "(II)I"⟩, 16) := ⟨⟨by decide +kernel, by decide +kernel⟩, List.mem_of_getElem? (i := 21) (by decide +kernel), List.mem_of_getElem? (i := 888) (by decide +kernel), List.mem_of_getElem? (i := 889) (by decide +kernel)⟩
theorem lw_p35 : lw_okq (⟨"StepsBeyond", "shapeTaken", "(II)I"⟩, 16) := ⟨⟨by decide +kernel, by decide +kernel⟩, List.mem_of_getElem? (i := 21) (by decide +kernel), List.mem_of_getElem? (i := 892) (by decide +kernel), List.mem_of_getElem? (i := 893) (by decide +kernel)⟩
theorem lw_p36 : lw_okq (⟨"StepsBeyondModel", "first", "(IIIII)V"⟩, 60) := ⟨⟨by decide +kernel, by decide +kernel⟩, List.mem_of_getElem? (i := 896) (by decide +kernel), List.mem_of_getElem? (i := 914) (by decide +kernel), List.mem_of_getElem? (i := 915) (by decide +kernel)⟩
theorem lw_p37 : lw_okq (⟨"StepsBeyondModel", "isHouse", "(I)Z"⟩, 60) := ⟨⟨by decide +kernel, by decide +kernel⟩, List.mem_of_getElem? (i := 896) (by decide +kernel), List.mem_of_getElem? (i := 1118) (by decide +kernel), List.mem_of_getElem? (i := 1119) (by decide +kernel)⟩
theorem lw_p38 : lw_okq (⟨"StepsBeyondModel", "next", "()V"⟩, 60) := ⟨⟨by decide +kernel, by decide +kernel⟩, List.mem_of_getElem? (i := 896) (by decide +kernel), List.mem_of_getElem? (i := 1131) (by decide +kernel), List.mem_of_getElem? (i := 1132) (by decide +kernel)⟩
theorem lw_p39 : lw_okq (⟨"StepsBeyondModel", "letters", "()J"⟩, 60) := ⟨⟨by decide +kernel, by decide +kernel⟩, List.mem_of_getElem? (i := 896) (by decide +kernel), List.mem_of_getElem? (i := 1135) (by decide +kernel), List.mem_of_getElem? (i := 1136) (by decide +kernel)⟩
theorem lw_p40 : lw_okq (⟨"StepsBeyondModel", "eRead", "()Z"⟩, 60) := ⟨⟨by decide +kernel, by decide +kernel⟩, List.mem_of_getElem? (i := 896) (by decide +kernel), List.mem_of_getElem? (i := 1139) (by decide +kernel), List.mem_of_getElem? (i := 1140) (by decide +kernel)⟩
theorem lw_p41 : lw_okq (⟨"StepsBeyondModel", "puts", "(I)V"⟩, 60) := ⟨⟨by decide +kernel, by decide +kernel⟩, List.mem_of_getElem? (i := 896) (by decide +kernel), List.mem_of_getElem? (i := 1144) (by decide +kernel), List.mem_of_getElem? (i := 1145) (by decide +kernel)⟩
theorem lw_p42 : lw_okq (⟨"StepsBeyondModel", "unwinds", "(I)V"⟩, 60) := ⟨⟨by decide +kernel, by decide +kernel⟩, List.mem_of_getElem? (i := 896) (by decide +kernel), List.mem_of_getElem? (i := 1148) (by decide +kernel), List.mem_of_getElem? (i := 1149) (by decide +kernel)⟩
theorem lw_p43 : lw_okq (⟨"StepsBeyondModel", "opensOne", "(I)Z"⟩, 60) := ⟨⟨by decide +kernel, by decide +kernel⟩, List.mem_of_getElem? (i := 896) (by decide +kernel), List.mem_of_getElem? (i := 1155) (by decide +kernel), List.mem_of_getElem? (i := 1156) (by decide +kernel)⟩
theorem lw_p44 : lw_okq (⟨"StepsBeyondModel", "holds", "(I)V"⟩, 60) := ⟨⟨by decide +kernel, by decide +kernel⟩, List.mem_of_getElem? (i := 896) (by decide +kernel), List.mem_of_getElem? (i := 1159) (by decide +kernel), List.mem_of_getElem? (i := 1160) (by decide +kernel)⟩
theorem lw_p45 : lw_okq (⟨"StepsBeyondModel", "signOf", "()I"⟩, 60) := ⟨⟨by decide +kernel, by decide +kernel⟩, List.mem_of_getElem? (i := 896) (by decide +kernel), List.mem_of_getElem? (i := 1163) (by decide +kernel), List.mem_of_getElem? (i := 1164) (by decide +kernel)⟩
theorem lw_p46 : lw_okq (⟨"StepsBeyondModel", "between", "(I)Z"⟩, 60) := ⟨⟨by decide +kernel, by decide +kernel⟩, List.mem_of_getElem? (i := 896) (by decide +kernel), List.mem_of_getElem? (i := 1167) (by decide +kernel), List.mem_of_getElem? (i := 1168) (by decide +kernel)⟩
theorem lw_p47 : lw_okq (⟨"StepsBeyondModel", "nearTwo", "(II)Z"⟩, 60) := ⟨⟨by decide +kernel, by decide +kernel⟩, List.mem_of_getElem? (i := 896) (by decide +kernel), List.mem_of_getElem? (i := 1179) (by decide +kernel), List.mem_of_getElem? (i := 1180) (by decide +kernel)⟩
def lw_privs_3 : List (MethodName × Nat) := [(⟨"StepsBeyond$Village", "heldNext", "(II)I"⟩, 9), (⟨"StepsBeyond$Village", "isByOne", "(III)Z"⟩, 9), (⟨"StepsBeyond", "houseTaken", "(II)I"⟩, 16), (⟨"StepsBeyond", "shapeTaken", "(II)I"⟩, 16), (⟨"StepsBeyondModel", "first", "(IIIII)V"⟩, 60), (⟨"StepsBeyondModel", "isHouse", "(I)Z"⟩, 60), (⟨"StepsBeyondModel", "next", "()V"⟩, 60), (⟨"StepsBeyondModel", "letters", "()J"⟩, 60), (⟨"StepsBeyondModel", "eRead", "()Z"⟩, 60), (⟨"StepsBeyondModel", "puts", "(I)V"⟩, 60), (⟨"StepsBeyondModel", "unwinds", "(I)V"⟩, 60), (⟨"StepsBeyondModel", "opensOne", "(I)Z"⟩, 60), (⟨"StepsBeyondModel", "holds", "(I)V"⟩, 60), (⟨"StepsBeyondModel", "signOf", "()I"⟩, 60), (⟨"StepsBeyondModel", "between", "(I)Z"⟩, 60), (⟨"StepsBeyondModel", "nearTwo", "(II)Z"⟩, 60)]
theorem lw_r3 : ∀ q ∈ lw_privs_3, lw_okq q := List.forall_mem_cons.mpr ⟨lw_p32, List.forall_mem_cons.mpr ⟨lw_p33, List.forall_mem_cons.mpr ⟨lw_p34, List.forall_mem_cons.mpr ⟨lw_p35, List.forall_mem_cons.mpr ⟨lw_p36, List.forall_mem_cons.mpr ⟨lw_p37, List.forall_mem_cons.mpr ⟨lw_p38, List.forall_mem_cons.mpr ⟨lw_p39, List.forall_mem_cons.mpr ⟨lw_p40, List.forall_mem_cons.mpr ⟨lw_p41, List.forall_mem_cons.mpr ⟨lw_p42, List.forall_mem_cons.mpr ⟨lw_p43, List.forall_mem_cons.mpr ⟨lw_p44, List.forall_mem_cons.mpr ⟨lw_p45, List.forall_mem_cons.mpr ⟨lw_p46, List.forall_mem_cons.mpr ⟨lw_p47, fun _ h => absurd h List.not_mem_nil⟩⟩⟩⟩⟩⟩⟩⟩⟩⟩⟩⟩⟩⟩⟩⟩
theorem lw_p48 : lw_okq (⟨"StepsBeyondModel", "areNear", "(III)Z"⟩, 60) := ⟨⟨by decide +kernel, by decide +kernel⟩, List.mem_of_getElem? (i := 896) (by decide +kernel), List.mem_of_getElem? (i := 1183) (by decide +kernel), List.mem_of_getElem? (i := 1184) (by decide +kernel)⟩
theorem lw_p49 : lw_okq (⟨"StepsBeyondModel", "worth", "(I)I"⟩, 60) := ⟨⟨by decide +kernel, by decide +kernel⟩, List.mem_of_getElem? (i := 896) (by decide +kernel), List.mem_of_getElem? (i := 1193) (by decide +kernel), List.mem_of_getElem? (i := 1194) (by decide +kernel)⟩
theorem lw_p50 : lw_okq (⟨"StepsBeyondModel", "farBy", "(I)I"⟩, 60) := ⟨⟨by decide +kernel, by decide +kernel⟩, List.mem_of_getElem? (i := 896) (by decide +kernel), List.mem_of_getElem? (i := 1204) (by decide +kernel), List.mem_of_getElem? (i := 1205) (by decide +kernel)⟩
theorem lw_p51 : lw_okq (⟨"StepsBeyondModel", "townOf", "(I)I"⟩, 60) := ⟨⟨by decide +kernel, by decide +kernel⟩, List.mem_of_getElem? (i := 896) (by decide +kernel), List.mem_of_getElem? (i := 1212) (by decide +kernel), List.mem_of_getElem? (i := 1213) (by decide +kernel)⟩
theorem lw_p52 : lw_okq (⟨"StepsBeyondModel", "all", "()I"⟩, 60) := ⟨⟨by decide +kernel, by decide +kernel⟩, List.mem_of_getElem? (i := 896) (by decide +kernel), List.mem_of_getElem? (i := 1216) (by decide +kernel), List.mem_of_getElem? (i := 1217) (by decide +kernel)⟩
theorem lw_p53 : lw_okq (⟨"StepsBeyondModel", "reached", "(II)I"⟩, 60) := ⟨⟨by decide +kernel, by decide +kernel⟩, List.mem_of_getElem? (i := 896) (by decide +kernel), List.mem_of_getElem? (i := 1220) (by decide +kernel), List.mem_of_getElem? (i := 1221) (by decide +kernel)⟩
theorem lw_p54 : lw_okq (⟨"StepsBeyondModel", "isShape", "(I)Z"⟩, 60) := ⟨⟨by decide +kernel, by decide +kernel⟩, List.mem_of_getElem? (i := 896) (by decide +kernel), List.mem_of_getElem? (i := 1243) (by decide +kernel), List.mem_of_getElem? (i := 1244) (by decide +kernel)⟩
theorem lw_p55 : lw_okq (⟨"StepsBeyondModel", "reach", "(I)I"⟩, 60) := ⟨⟨by decide +kernel, by decide +kernel⟩, List.mem_of_getElem? (i := 896) (by decide +kernel), List.mem_of_getElem? (i := 1247) (by decide +kernel), List.mem_of_getElem? (i := 1248) (by decide +kernel)⟩
theorem lw_p56 : lw_okq (⟨"StepsBeyondModel", "middle", "(I)I"⟩, 60) := ⟨⟨by decide +kernel, by decide +kernel⟩, List.mem_of_getElem? (i := 896) (by decide +kernel), List.mem_of_getElem? (i := 1251) (by decide +kernel), List.mem_of_getElem? (i := 1252) (by decide +kernel)⟩
theorem lw_p57 : lw_okq (⟨"StepsBeyondModel", "looks", "(I)V"⟩, 60) := ⟨⟨by decide +kernel, by decide +kernel⟩, List.mem_of_getElem? (i := 896) (by decide +kernel), List.mem_of_getElem? (i := 1259) (by decide +kernel), List.mem_of_getElem? (i := 1260) (by decide +kernel)⟩
theorem lw_p58 : lw_okq (⟨"StepsBeyondModel", "spans", "(I)V"⟩, 60) := ⟨⟨by decide +kernel, by decide +kernel⟩, List.mem_of_getElem? (i := 896) (by decide +kernel), List.mem_of_getElem? (i := 1263) (by decide +kernel), List.mem_of_getElem? (i := 1264) (by decide +kernel)⟩
theorem lw_p59 : lw_okq (⟨"StepsBeyondModel", "isIn", "(II)Z"⟩, 60) := ⟨⟨by decide +kernel, by decide +kernel⟩, List.mem_of_getElem? (i := 896) (by decide +kernel), List.mem_of_getElem? (i := 1267) (by decide +kernel), List.mem_of_getElem? (i := 1268) (by decide +kernel)⟩
theorem lw_p60 : lw_okq (⟨"StepsBeyondModel", "byHouses", "(I)Z"⟩, 60) := ⟨⟨by decide +kernel, by decide +kernel⟩, List.mem_of_getElem? (i := 896) (by decide +kernel), List.mem_of_getElem? (i := 1271) (by decide +kernel), List.mem_of_getElem? (i := 1272) (by decide +kernel)⟩
theorem lw_p61 : lw_okq (⟨"StepsBeyondModel", "isBox", "(II)Z"⟩, 60) := ⟨⟨by decide +kernel, by decide +kernel⟩, List.mem_of_getElem? (i := 896) (by decide +kernel), List.mem_of_getElem? (i := 1275) (by decide +kernel), List.mem_of_getElem? (i := 1276) (by decide +kernel)⟩
theorem lw_p62 : lw_okq (⟨"StepsBeyondModel", "marksOne", "(I)I"⟩, 60) := ⟨⟨by decide +kernel, by decide +kernel⟩, List.mem_of_getElem? (i := 896) (by decide +kernel), List.mem_of_getElem? (i := 1283) (by decide +kernel), List.mem_of_getElem? (i := 1284) (by decide +kernel)⟩
theorem lw_p63 : lw_okq (⟨"StepsBeyondModel", "marksOther", "(I)V"⟩, 60) := ⟨⟨by decide +kernel, by decide +kernel⟩, List.mem_of_getElem? (i := 896) (by decide +kernel), List.mem_of_getElem? (i := 1291) (by decide +kernel), List.mem_of_getElem? (i := 1292) (by decide +kernel)⟩
def lw_privs_4 : List (MethodName × Nat) := [(⟨"StepsBeyondModel", "areNear", "(III)Z"⟩, 60), (⟨"StepsBeyondModel", "worth", "(I)I"⟩, 60), (⟨"StepsBeyondModel", "farBy", "(I)I"⟩, 60), (⟨"StepsBeyondModel", "townOf", "(I)I"⟩, 60), (⟨"StepsBeyondModel", "all", "()I"⟩, 60), (⟨"StepsBeyondModel", "reached", "(II)I"⟩, 60), (⟨"StepsBeyondModel", "isShape", "(I)Z"⟩, 60), (⟨"StepsBeyondModel", "reach", "(I)I"⟩, 60), (⟨"StepsBeyondModel", "middle", "(I)I"⟩, 60), (⟨"StepsBeyondModel", "looks", "(I)V"⟩, 60), (⟨"StepsBeyondModel", "spans", "(I)V"⟩, 60), (⟨"StepsBeyondModel", "isIn", "(II)Z"⟩, 60), (⟨"StepsBeyondModel", "byHouses", "(I)Z"⟩, 60), (⟨"StepsBeyondModel", "isBox", "(II)Z"⟩, 60), (⟨"StepsBeyondModel", "marksOne", "(I)I"⟩, 60), (⟨"StepsBeyondModel", "marksOther", "(I)V"⟩, 60)]
theorem lw_r4 : ∀ q ∈ lw_privs_4, lw_okq q := List.forall_mem_cons.mpr ⟨lw_p48, List.forall_mem_cons.mpr ⟨lw_p49, List.forall_mem_cons.mpr ⟨lw_p50, List.forall_mem_cons.mpr ⟨lw_p51, List.forall_mem_cons.mpr ⟨lw_p52, List.forall_mem_cons.mpr ⟨lw_p53, List.forall_mem_cons.mpr ⟨lw_p54, List.forall_mem_cons.mpr ⟨lw_p55, List.forall_mem_cons.mpr ⟨lw_p56, List.forall_mem_cons.mpr ⟨lw_p57, List.forall_mem_cons.mpr ⟨lw_p58, List.forall_mem_cons.mpr ⟨lw_p59, List.forall_mem_cons.mpr ⟨lw_p60, List.forall_mem_cons.mpr ⟨lw_p61, List.forall_mem_cons.mpr ⟨lw_p62, List.forall_mem_cons.mpr ⟨lw_p63, fun _ h => absurd h List.not_mem_nil⟩⟩⟩⟩⟩⟩⟩⟩⟩⟩⟩⟩⟩⟩⟩⟩
theorem lw_p64 : lw_okq (⟨"StepsBeyondModel", "spreads", "(I)V"⟩, 60) := ⟨⟨by decide +kernel, by decide +kernel⟩, List.mem_of_getElem? (i := 896) (by decide +kernel), List.mem_of_getElem? (i := 1307) (by decide +kernel), List.mem_of_getElem? (i := 1308) (by decide +kernel)⟩
theorem lw_p65 : lw_okq (⟨"StepsBeyondModel", "cost", "(III)I"⟩, 60) := ⟨⟨by decide +kernel, by decide +kernel⟩, List.mem_of_getElem? (i := 896) (by decide +kernel), List.mem_of_getElem? (i := 1312) (by decide +kernel), List.mem_of_getElem? (i := 1313) (by decide +kernel)⟩
theorem lw_p66 : lw_okq (⟨"StepsBeyondModel", "tries", "(III)V"⟩, 60) := ⟨⟨by decide +kernel, by decide +kernel⟩, List.mem_of_getElem? (i := 896) (by decide +kernel), List.mem_of_getElem? (i := 1316) (by decide +kernel), List.mem_of_getElem? (i := 1317) (by decide +kernel)⟩
theorem lw_p67 : lw_okq (⟨"StepsBeyondModel", "isPerson", "(I)Z"⟩, 60) := ⟨⟨by decide +kernel, by decide +kernel⟩, List.mem_of_getElem? (i := 896) (by decide +kernel), List.mem_of_getElem? (i := 1328) (by decide +kernel), List.mem_of_getElem? (i := 1329) (by decide +kernel)⟩
theorem lw_p68 : lw_okq (⟨"StepsBeyondModel", "isOut", "(I)Z"⟩, 60) := ⟨⟨by decide +kernel, by decide +kernel⟩, List.mem_of_getElem? (i := 896) (by decide +kernel), List.mem_of_getElem? (i := 1336) (by decide +kernel), List.mem_of_getElem? (i := 1337) (by decide +kernel)⟩
theorem lw_p69 : lw_okq (⟨"StepsBeyondModel", "why", "(III)I"⟩, 60) := ⟨⟨by decide +kernel, by decide +kernel⟩, List.mem_of_getElem? (i := 896) (by decide +kernel), List.mem_of_getElem? (i := 1348) (by decide +kernel), List.mem_of_getElem? (i := 1349) (by decide +kernel)⟩
theorem lw_p70 : lw_okq (⟨"StepsBeyondModel", "joins", "(II)Z"⟩, 60) := ⟨⟨by decide +kernel, by decide +kernel⟩, List.mem_of_getElem? (i := 896) (by decide +kernel), List.mem_of_getElem? (i := 1368) (by decide +kernel), List.mem_of_getElem? (i := 1369) (by decide +kernel)⟩
def lw_privs_5 : List (MethodName × Nat) := [(⟨"StepsBeyondModel", "spreads", "(I)V"⟩, 60), (⟨"StepsBeyondModel", "cost", "(III)I"⟩, 60), (⟨"StepsBeyondModel", "tries", "(III)V"⟩, 60), (⟨"StepsBeyondModel", "isPerson", "(I)Z"⟩, 60), (⟨"StepsBeyondModel", "isOut", "(I)Z"⟩, 60), (⟨"StepsBeyondModel", "why", "(III)I"⟩, 60), (⟨"StepsBeyondModel", "joins", "(II)Z"⟩, 60)]
theorem lw_r5 : ∀ q ∈ lw_privs_5, lw_okq q := List.forall_mem_cons.mpr ⟨lw_p64, List.forall_mem_cons.mpr ⟨lw_p65, List.forall_mem_cons.mpr ⟨lw_p66, List.forall_mem_cons.mpr ⟨lw_p67, List.forall_mem_cons.mpr ⟨lw_p68, List.forall_mem_cons.mpr ⟨lw_p69, List.forall_mem_cons.mpr ⟨lw_p70, fun _ h => absurd h List.not_mem_nil⟩⟩⟩⟩⟩⟩⟩
def lw_privs : List (MethodName × Nat) := lw_privs_1 ++ (lw_privs_2 ++ (lw_privs_3 ++ (lw_privs_4 ++ (lw_privs_5))))
def lw_tbl : List Cond := k2_sels lw_privs ++ tables_1
theorem lw_privs_ok : ∀ q ∈ lw_privs, lw_okq q := by
  show ∀ q ∈ lw_privs_1 ++ (lw_privs_2 ++ (lw_privs_3 ++ (lw_privs_4 ++ (lw_privs_5)))), lw_okq q
  exact List.forall_mem_append.mpr ⟨lw_r1, List.forall_mem_append.mpr ⟨lw_r2, List.forall_mem_append.mpr ⟨lw_r3, List.forall_mem_append.mpr ⟨lw_r4, lw_r5⟩⟩⟩⟩
end
section
def RX0 : String := "StepsBeyond$Area"
def TX0 : u_T := fun k => match k with
  | 0 => ("StepsBeyond$Area", "counted", "[I", true)
  | 1 => ("StepsBeyond$Area", "number", "I", false)
  | 2 => ("StepsBeyond$Area", "reach", "I", false)
  | 3 => ("StepsBeyond$Area", "leastX", "I", false)
  | 4 => ("StepsBeyond$Area", "greatestX", "I", false)
  | 5 => ("StepsBeyond$Area", "leastY", "I", false)
  | 6 => ("StepsBeyond$Area", "greatestY", "I", false)
  | 7 => ("StepsBeyond$Area", "square", "Z", false)
  | _ => ("StepsBeyond$Area", "filled", "Z", false)
def tyX0 : Nat → FieldType := fun k => match k with
  | 0 => .array .int
  | 1 => .int
  | 2 => .int
  | 3 => .int
  | 4 => .int
  | 5 => .int
  | 6 => .int
  | 7 => .boolean
  | _ => .boolean
abbrev wsX00 : List Cond := u_ws RX0 TX0 9
theorem nmX0 : ∀ a, a < 9 → ∀ b, b < 9 → a ≠ b → (TX0 a).2.1 ≠ (TX0 b).2.1 := by decide +kernel
theorem tyX0_ok : ∀ k, k < 9 → parseFieldDescriptor (TX0 k).2.2.1 = some (tyX0 k) := by decide +kernel
abbrev cX0_init : ByteArray := prog_2_method_1_code
def yX0_init : MethodName := ⟨RX0, "<init>", "()V"⟩
abbrev cX0_clear : ByteArray := prog_2_method_2_code
def yX0_clear : MethodName := ⟨RX0, "clear", "(ZI)V"⟩
abbrev cX0_include : ByteArray := prog_2_method_3_code
def yX0_include : MethodName := ⟨RX0, "include", "(I)V"⟩
abbrev cX0_fillUpTo : ByteArray := prog_2_method_4_code
def yX0_fillUpTo : MethodName := ⟨RX0, "fillUpTo", "(I)V"⟩
abbrev cX0_measureLoaf : ByteArray := prog_2_method_5_code
def yX0_measureLoaf : MethodName := ⟨RX0, "measureLoaf", "(II)V"⟩
abbrev cX0_holds : ByteArray := prog_2_method_6_code
def yX0_holds : MethodName := ⟨RX0, "holds", "(I)Z"⟩
abbrev cX0_isInBox : ByteArray := prog_2_method_7_code
def yX0_isInBox : MethodName := ⟨RX0, "isInBox", "(II)Z"⟩
abbrev cX0_isByOne : ByteArray := prog_2_method_8_code
def yX0_isByOne : MethodName := ⟨RX0, "isByOne", "(I)Z"⟩
def RX1 : String := "StepsBeyond$Image"
def TX1 : u_T := fun k => match k with
  | 0 => ("StepsBeyond$Image", "huts", "[I", true)
  | 1 => ("StepsBeyond$Image", "places", "[I", true)
  | 2 => ("StepsBeyond$Image", "made", "Z", false)
  | 3 => ("StepsBeyond$Image", "houseCount", "I", false)
  | 4 => ("StepsBeyond$Image", "personCount", "I", false)
  | 5 => ("StepsBeyond$Image", "loafPlace", "I", false)
  | _ => ("StepsBeyond$Image", "lawNumber", "I", false)
def tyX1 : Nat → FieldType := fun k => match k with
  | 0 => .array .int
  | 1 => .array .int
  | 2 => .boolean
  | 3 => .int
  | 4 => .int
  | 5 => .int
  | _ => .int
abbrev wsX10 : List Cond := u_ws RX1 TX1 7
theorem nmX1 : ∀ a, a < 7 → ∀ b, b < 7 → a ≠ b → (TX1 a).2.1 ≠ (TX1 b).2.1 := by decide +kernel
theorem tyX1_ok : ∀ k, k < 7 → parseFieldDescriptor (TX1 k).2.2.1 = some (tyX1 k) := by decide +kernel
abbrev cX1_init : ByteArray := prog_3_method_1_code
def yX1_init : MethodName := ⟨RX1, "<init>", "()V"⟩
def RX2 : String := "StepsBeyond$Land"
def TX2 : u_T := fun k => match k with
  | 0 => ("StepsBeyond$Land", "fromWest", "[I", true)
  | _ => ("StepsBeyond$Land", "fromNorth", "[I", true)
def tyX2 : Nat → FieldType := fun k => match k with
  | 0 => .array .int
  | _ => .array .int
abbrev wsX20 : List Cond := u_ws RX2 TX2 2
theorem nmX2 : ∀ a, a < 2 → ∀ b, b < 2 → a ≠ b → (TX2 a).2.1 ≠ (TX2 b).2.1 := by decide +kernel
theorem tyX2_ok : ∀ k, k < 2 → parseFieldDescriptor (TX2 k).2.2.1 = some (tyX2 k) := by decide +kernel
abbrev cX2_init : ByteArray := prog_4_method_1_code
def yX2_init : MethodName := ⟨RX2, "<init>", "()V"⟩
abbrev cX2_split : ByteArray := prog_4_method_2_code
def yX2_split : MethodName := ⟨RX2, "split", "(IIIII)V"⟩
abbrev cX2_walkFrom : ByteArray := prog_4_method_3_code
def yX2_walkFrom : MethodName := ⟨RX2, "walkFrom", "(I[I)V"⟩
abbrev cX2_sweepSouth : ByteArray := prog_4_method_4_code
def yX2_sweepSouth : MethodName := ⟨RX2, "sweepSouth", "([I)Z"⟩
abbrev cX2_sweepNorth : ByteArray := prog_4_method_5_code
def yX2_sweepNorth : MethodName := ⟨RX2, "sweepNorth", "([I)Z"⟩
abbrev cX2_sweepRow : ByteArray := prog_4_method_6_code
def yX2_sweepRow : MethodName := ⟨RX2, "sweepRow", "([II)Z"⟩
def RX3 : String := "StepsBeyond$People"
def TX3 : u_T := fun k => match k with
  | 0 => ("StepsBeyond$People", "places", "[I", true)
  | 1 => ("StepsBeyond$People", "bounds", "[I", true)
  | _ => ("StepsBeyond$People", "number", "I", false)
def tyX3 : Nat → FieldType := fun k => match k with
  | 0 => .array .int
  | 1 => .array .int
  | _ => .int
abbrev wsX30 : List Cond := u_ws RX3 TX3 3
theorem nmX3 : ∀ a, a < 3 → ∀ b, b < 3 → a ≠ b → (TX3 a).2.1 ≠ (TX3 b).2.1 := by decide +kernel
theorem tyX3_ok : ∀ k, k < 3 → parseFieldDescriptor (TX3 k).2.2.1 = some (tyX3 k) := by decide +kernel
abbrev cX3_init : ByteArray := prog_5_method_1_code
def yX3_init : MethodName := ⟨RX3, "<init>", "()V"⟩
abbrev cX3_knows : ByteArray := prog_5_method_2_code
def yX3_knows : MethodName := ⟨RX3, "knows", "(I)Z"⟩
abbrev cX3_add : ByteArray := prog_5_method_3_code
def yX3_add : MethodName := ⟨RX3, "add", "(II)I"⟩
def RX4 : String := "StepsBeyond$Reader"
def TX4 : u_T := fun k => match k with
  | 0 => ("StepsBeyond$Reader", "tape", "[I", true)
  | 1 => ("StepsBeyond$Reader", "code", "[I", true)
  | 2 => ("StepsBeyond$Reader", "length", "I", false)
  | 3 => ("StepsBeyond$Reader", "written", "I", false)
  | 4 => ("StepsBeyond$Reader", "farStart", "I", false)
  | 5 => ("StepsBeyond$Reader", "at", "I", false)
  | 6 => ("StepsBeyond$Reader", "behind", "I", false)
  | 7 => ("StepsBeyond$Reader", "token", "I", false)
  | _ => ("StepsBeyond$Reader", "value", "I", false)
def tyX4 : Nat → FieldType := fun k => match k with
  | 0 => .array .int
  | 1 => .array .int
  | 2 => .int
  | 3 => .int
  | 4 => .int
  | 5 => .int
  | 6 => .int
  | 7 => .int
  | _ => .int
abbrev wsX40 : List Cond := u_ws RX4 TX4 9
theorem nmX4 : ∀ a, a < 9 → ∀ b, b < 9 → a ≠ b → (TX4 a).2.1 ≠ (TX4 b).2.1 := by decide +kernel
theorem tyX4_ok : ∀ k, k < 9 → parseFieldDescriptor (TX4 k).2.2.1 = some (tyX4 k) := by decide +kernel
abbrev cX4_init : ByteArray := prog_6_method_1_code
def yX4_init : MethodName := ⟨RX4, "<init>", "()V"⟩
abbrev cX4_append : ByteArray := prog_6_method_2_code
def yX4_append : MethodName := ⟨RX4, "append", "(I)V"⟩
abbrev cX4_clear : ByteArray := prog_6_method_3_code
def yX4_clear : MethodName := ⟨RX4, "clear", "()V"⟩
abbrev cX4_readText : ByteArray := prog_6_method_4_code
def yX4_readText : MethodName := ⟨RX4, "readText", "()Z"⟩
abbrev cX4_readOr : ByteArray := prog_6_method_5_code
def yX4_readOr : MethodName := ⟨RX4, "readOr", "(I)Z"⟩
abbrev cX4_readAnd : ByteArray := prog_6_method_6_code
def yX4_readAnd : MethodName := ⟨RX4, "readAnd", "(I)Z"⟩
abbrev cX4_readNot : ByteArray := prog_6_method_7_code
def yX4_readNot : MethodName := ⟨RX4, "readNot", "(I)Z"⟩
abbrev cX4_readCompared : ByteArray := prog_6_method_8_code
def yX4_readCompared : MethodName := ⟨RX4, "readCompared", "(I)Z"⟩
abbrev cX4_readSum : ByteArray := prog_6_method_9_code
def yX4_readSum : MethodName := ⟨RX4, "readSum", "(I)Z"⟩
abbrev cX4_readTerm : ByteArray := prog_6_method_10_code
def yX4_readTerm : MethodName := ⟨RX4, "readTerm", "(I)Z"⟩
abbrev cX4_readOne : ByteArray := prog_6_method_11_code
def yX4_readOne : MethodName := ⟨RX4, "readOne", "(I)Z"⟩
abbrev cX4_pass : ByteArray := prog_6_method_12_code
def yX4_pass : MethodName := ⟨RX4, "pass", "(I)Z"⟩
abbrev cX4_write : ByteArray := prog_6_method_13_code
def yX4_write : MethodName := ⟨RX4, "write", "(I)V"⟩
abbrev cX4_next : ByteArray := prog_6_method_14_code
def yX4_next : MethodName := ⟨RX4, "next", "()V"⟩
abbrev cX4_takeWord : ByteArray := prog_6_method_15_code
def yX4_takeWord : MethodName := ⟨RX4, "takeWord", "()V"⟩
abbrev cX4_takeNumber : ByteArray := prog_6_method_16_code
def yX4_takeNumber : MethodName := ⟨RX4, "takeNumber", "()V"⟩
abbrev cX4_isHere : ByteArray := prog_6_method_17_code
def yX4_isHere : MethodName := ⟨RX4, "isHere", "(Ljava/lang/String;)Z"⟩
abbrev cX4_signOf : ByteArray := prog_6_method_18_code
def yX4_signOf : MethodName := ⟨RX4, "signOf", "(I)I"⟩
abbrev cX4_isLetter : ByteArray := prog_6_method_19_code
def yX4_isLetter : MethodName := ⟨RX4, "isLetter", "(I)Z"⟩
abbrev cX4_isDigit : ByteArray := prog_6_method_20_code
def yX4_isDigit : MethodName := ⟨RX4, "isDigit", "(I)Z"⟩
def RX5 : String := "StepsBeyond$Reckoner"
def TX5 : u_T := fun k => match k with
  | 0 => ("StepsBeyond$Reckoner", "facts", "[I", true)
  | 1 => ("StepsBeyond$Reckoner", "stack", "[I", true)
  | _ => ("StepsBeyond$Reckoner", "top", "I", false)
def tyX5 : Nat → FieldType := fun k => match k with
  | 0 => .array .int
  | 1 => .array .int
  | _ => .int
abbrev wsX50 : List Cond := u_ws RX5 TX5 3
theorem nmX5 : ∀ a, a < 3 → ∀ b, b < 3 → a ≠ b → (TX5 a).2.1 ≠ (TX5 b).2.1 := by decide +kernel
theorem tyX5_ok : ∀ k, k < 3 → parseFieldDescriptor (TX5 k).2.2.1 = some (tyX5 k) := by decide +kernel
abbrev cX5_init : ByteArray := prog_7_method_1_code
def yX5_init : MethodName := ⟨RX5, "<init>", "()V"⟩
abbrev cX5_tellPair : ByteArray := prog_7_method_2_code
def yX5_tellPair : MethodName := ⟨RX5, "tellPair", "(III)V"⟩
abbrev cX5_tellAll : ByteArray := prog_7_method_3_code
def yX5_tellAll : MethodName := ⟨RX5, "tellAll", "(III)V"⟩
abbrev cX5_worth : ByteArray := prog_7_method_4_code
def yX5_worth : MethodName := ⟨RX5, "worth", "([I)I"⟩
abbrev cX5_push : ByteArray := prog_7_method_5_code
def yX5_push : MethodName := ⟨RX5, "push", "(I)V"⟩
abbrev cX5_turnTop : ByteArray := prog_7_method_6_code
def yX5_turnTop : MethodName := ⟨RX5, "turnTop", "(I)V"⟩
abbrev cX5_joinTwo : ByteArray := prog_7_method_7_code
def yX5_joinTwo : MethodName := ⟨RX5, "joinTwo", "(I)V"⟩
def RX6 : String := "StepsBeyond$Shapes"
def TX6 : u_T := fun k => match k with
  | 0 => ("StepsBeyond$Shapes", "kinds", "[I", true)
  | 1 => ("StepsBeyond$Shapes", "homes", "[I", true)
  | 2 => ("StepsBeyond$Shapes", "mores", "[I", true)
  | _ => ("StepsBeyond$Shapes", "number", "I", false)
def tyX6 : Nat → FieldType := fun k => match k with
  | 0 => .array .int
  | 1 => .array .int
  | 2 => .array .int
  | _ => .int
abbrev wsX60 : List Cond := u_ws RX6 TX6 4
theorem nmX6 : ∀ a, a < 4 → ∀ b, b < 4 → a ≠ b → (TX6 a).2.1 ≠ (TX6 b).2.1 := by decide +kernel
theorem tyX6_ok : ∀ k, k < 4 → parseFieldDescriptor (TX6 k).2.2.1 = some (tyX6 k) := by decide +kernel
abbrev cX6_init : ByteArray := prog_8_method_1_code
def yX6_init : MethodName := ⟨RX6, "<init>", "()V"⟩
abbrev cX6_knows : ByteArray := prog_8_method_2_code
def yX6_knows : MethodName := ⟨RX6, "knows", "(I)Z"⟩
abbrev cX6_add : ByteArray := prog_8_method_3_code
def yX6_add : MethodName := ⟨RX6, "add", "(III)I"⟩
def RX7 : String := "StepsBeyond$Sheets"
def TX7 : u_T := fun k => match k with
  | 0 => ("StepsBeyond$Sheets", "rows", "[[I", true)
  | 1 => ("StepsBeyond$Sheets", "sorts", "[I", true)
  | _ => ("StepsBeyond$Sheets", "lengths", "[I", true)
def tyX7 : Nat → FieldType := fun k => match k with
  | 0 => .array (.array .int)
  | 1 => .array .int
  | _ => .array .int
abbrev wsX70 : List Cond := u_ws RX7 TX7 3
theorem nmX7 : ∀ a, a < 3 → ∀ b, b < 3 → a ≠ b → (TX7 a).2.1 ≠ (TX7 b).2.1 := by decide +kernel
theorem tyX7_ok : ∀ k, k < 3 → parseFieldDescriptor (TX7 k).2.2.1 = some (tyX7 k) := by decide +kernel
abbrev cX7_init : ByteArray := prog_9_method_1_code
def yX7_init : MethodName := ⟨RX7, "<init>", "()V"⟩
abbrev cX7_renew : ByteArray := prog_9_method_2_code
def yX7_renew : MethodName := ⟨RX7, "renew", "(III)V"⟩
abbrev cX7_isMissing : ByteArray := prog_9_method_3_code
def yX7_isMissing : MethodName := ⟨RX7, "isMissing", "(I)Z"⟩
abbrev cX7_hasRun : ByteArray := prog_9_method_4_code
def yX7_hasRun : MethodName := ⟨RX7, "hasRun", "(III)Z"⟩
abbrev cX7_put : ByteArray := prog_9_method_5_code
def yX7_put : MethodName := ⟨RX7, "put", "(III)V"⟩
def RX8 : String := "StepsBeyond$Texts"
def TX8 : u_T := fun k => match k with
  | 0 => ("StepsBeyond$Texts", "nearCodes", "[[I", true)
  | 1 => ("StepsBeyond$Texts", "farCodes", "[[I", true)
  | _ => ("StepsBeyond$Texts", "number", "I", false)
def tyX8 : Nat → FieldType := fun k => match k with
  | 0 => .array (.array .int)
  | 1 => .array (.array .int)
  | _ => .int
abbrev wsX80 : List Cond := u_ws RX8 TX8 3
theorem nmX8 : ∀ a, a < 3 → ∀ b, b < 3 → a ≠ b → (TX8 a).2.1 ≠ (TX8 b).2.1 := by decide +kernel
theorem tyX8_ok : ∀ k, k < 3 → parseFieldDescriptor (TX8 k).2.2.1 = some (tyX8 k) := by decide +kernel
abbrev cX8_init : ByteArray := prog_10_method_1_code
def yX8_init : MethodName := ⟨RX8, "<init>", "()V"⟩
abbrev cX8_knows : ByteArray := prog_10_method_2_code
def yX8_knows : MethodName := ⟨RX8, "knows", "(I)Z"⟩
abbrev cX8_add : ByteArray := prog_10_method_3_code
def yX8_add : MethodName := ⟨RX8, "add", "(LStepsBeyond$Reader;)I"⟩
def RX9 : String := "StepsBeyond$Village"
def TX9 : u_T := fun k => match k with
  | 0 => ("StepsBeyond$Village", "places", "[I", true)
  | 1 => ("StepsBeyond$Village", "huts", "[I", true)
  | 2 => ("StepsBeyond$Village", "joined", "[I", true)
  | 3 => ("StepsBeyond$Village", "looked", "[I", true)
  | 4 => ("StepsBeyond$Village", "reckoner", "LStepsBeyond$Reckoner;", true)
  | 5 => ("StepsBeyond$Village", "nearCode", "[I", false)
  | 6 => ("StepsBeyond$Village", "farCode", "[I", false)
  | 7 => ("StepsBeyond$Village", "number", "I", false)
  | _ => ("StepsBeyond$Village", "ravines", "I", false)
def tyX9 : Nat → FieldType := fun k => match k with
  | 0 => .array .int
  | 1 => .array .int
  | 2 => .array .int
  | 3 => .array .int
  | 4 => .object "StepsBeyond$Reckoner"
  | 5 => .array .int
  | 6 => .array .int
  | 7 => .int
  | _ => .int
abbrev wsX90 : List Cond := u_ws RX9 TX9 9
theorem nmX9 : ∀ a, a < 9 → ∀ b, b < 9 → a ≠ b → (TX9 a).2.1 ≠ (TX9 b).2.1 := by decide +kernel
theorem tyX9_ok : ∀ k, k < 9 → parseFieldDescriptor (TX9 k).2.2.1 = some (tyX9 k) := by decide +kernel
abbrev cX9_init : ByteArray := prog_11_method_1_code
def yX9_init : MethodName := ⟨RX9, "<init>", "()V"⟩
abbrev cX9_knows : ByteArray := prog_11_method_2_code
def yX9_knows : MethodName := ⟨RX9, "knows", "(I)Z"⟩
abbrev cX9_add : ByteArray := prog_11_method_3_code
def yX9_add : MethodName := ⟨RX9, "add", "(II)I"⟩
abbrev cX9_obey : ByteArray := prog_11_method_4_code
def yX9_obey : MethodName := ⟨RX9, "obey", "([I[I)V"⟩
abbrev cX9_joinAll : ByteArray := prog_11_method_5_code
def yX9_joinAll : MethodName := ⟨RX9, "joinAll", "()V"⟩
abbrev cX9_areNear : ByteArray := prog_11_method_6_code
def yX9_areNear : MethodName := ⟨RX9, "areNear", "(III)Z"⟩
abbrev cX9_farWith : ByteArray := prog_11_method_7_code
def yX9_farWith : MethodName := ⟨RX9, "farWith", "(I)I"⟩
abbrev cX9_townOf : ByteArray := prog_11_method_8_code
def yX9_townOf : MethodName := ⟨RX9, "townOf", "(I)I"⟩
abbrev cX9_spreadFrom : ByteArray := prog_11_method_9_code
def yX9_spreadFrom : MethodName := ⟨RX9, "spreadFrom", "(II)I"⟩
abbrev cX9_heldBy : ByteArray := prog_11_method_10_code
def yX9_heldBy : MethodName := ⟨RX9, "heldBy", "(I)I"⟩
abbrev cX9_countTowns : ByteArray := prog_11_method_11_code
def yX9_countTowns : MethodName := ⟨RX9, "countTowns", "()I"⟩
abbrev cX9_shedFor : ByteArray := prog_11_method_12_code
def yX9_shedFor : MethodName := ⟨RX9, "shedFor", "(II)I"⟩
abbrev cX9_hutJoins : ByteArray := prog_11_method_13_code
def yX9_hutJoins : MethodName := ⟨RX9, "hutJoins", "(II)Z"⟩
abbrev cX9_hutIsNear : ByteArray := prog_11_method_14_code
def yX9_hutIsNear : MethodName := ⟨RX9, "hutIsNear", "(II)Z"⟩
abbrev cX9_roundsTo : ByteArray := prog_11_method_15_code
def yX9_roundsTo : MethodName := ⟨RX9, "roundsTo", "(III)I"⟩
abbrev cX9_heldNext : ByteArray := prog_11_method_16_code
def yX9_heldNext : MethodName := ⟨RX9, "heldNext", "(II)I"⟩
abbrev cX9_isByOne : ByteArray := prog_11_method_17_code
def yX9_isByOne : MethodName := ⟨RX9, "isByOne", "(III)Z"⟩
def RX10 : String := "StepsBeyond"
def TX10 : u_T := fun k => match k with
  | 0 => ("StepsBeyond", "reader", "LStepsBeyond$Reader;", true)
  | 1 => ("StepsBeyond", "texts", "LStepsBeyond$Texts;", true)
  | 2 => ("StepsBeyond", "village", "LStepsBeyond$Village;", true)
  | 3 => ("StepsBeyond", "land", "LStepsBeyond$Land;", true)
  | 4 => ("StepsBeyond", "shapes", "LStepsBeyond$Shapes;", true)
  | 5 => ("StepsBeyond", "people", "LStepsBeyond$People;", true)
  | 6 => ("StepsBeyond", "kept", "LStepsBeyond$Image;", true)
  | 7 => ("StepsBeyond", "sheets", "LStepsBeyond$Sheets;", true)
  | 8 => ("StepsBeyond", "area", "LStepsBeyond$Area;", true)
  | 9 => ("StepsBeyond", "otherArea", "LStepsBeyond$Area;", true)
  | 10 => ("StepsBeyond", "walked", "[I", true)
  | 11 => ("StepsBeyond", "otherWalked", "[I", true)
  | 12 => ("StepsBeyond", "wellPlaces", "[I", true)
  | 13 => ("StepsBeyond", "wellCount", "I", false)
  | 14 => ("StepsBeyond", "lawNumber", "I", false)
  | _ => ("StepsBeyond", "loafPlace", "I", false)
def tyX10 : Nat → FieldType := fun k => match k with
  | 0 => .object "StepsBeyond$Reader"
  | 1 => .object "StepsBeyond$Texts"
  | 2 => .object "StepsBeyond$Village"
  | 3 => .object "StepsBeyond$Land"
  | 4 => .object "StepsBeyond$Shapes"
  | 5 => .object "StepsBeyond$People"
  | 6 => .object "StepsBeyond$Image"
  | 7 => .object "StepsBeyond$Sheets"
  | 8 => .object "StepsBeyond$Area"
  | 9 => .object "StepsBeyond$Area"
  | 10 => .array .int
  | 11 => .array .int
  | 12 => .array .int
  | 13 => .int
  | 14 => .int
  | _ => .int
abbrev wsX100 : List Cond := u_ws RX10 TX10 16
theorem nmX10 : ∀ a, a < 16 → ∀ b, b < 16 → a ≠ b → (TX10 a).2.1 ≠ (TX10 b).2.1 := by decide +kernel
theorem tyX10_ok : ∀ k, k < 16 → parseFieldDescriptor (TX10 k).2.2.1 = some (tyX10 k) := by decide +kernel
abbrev cX10_init : ByteArray := prog_1_method_1_code
def yX10_init : MethodName := ⟨RX10, "<init>", "()V"⟩
abbrev cX10_house : ByteArray := prog_1_method_2_code
def yX10_house : MethodName := ⟨RX10, "house", "(II)I"⟩
abbrev cX10_hut : ByteArray := prog_1_method_3_code
def yX10_hut : MethodName := ⟨RX10, "hut", "(II)I"⟩
abbrev cX10_near : ByteArray := prog_1_method_4_code
def yX10_near : MethodName := ⟨RX10, "near", "(II)I"⟩
abbrev cX10_far : ByteArray := prog_1_method_5_code
def yX10_far : MethodName := ⟨RX10, "far", "(I)I"⟩
abbrev cX10_town : ByteArray := prog_1_method_6_code
def yX10_town : MethodName := ⟨RX10, "town", "(I)I"⟩
abbrev cX10_burn : ByteArray := prog_1_method_7_code
def yX10_burn : MethodName := ⟨RX10, "burn", "(I)I"⟩
abbrev cX10_feed : ByteArray := prog_1_method_8_code
def yX10_feed : MethodName := ⟨RX10, "feed", "(JI)I"⟩
abbrev cX10_text : ByteArray := prog_1_method_9_code
def yX10_text : MethodName := ⟨RX10, "text", "()I"⟩
abbrev cX10_force : ByteArray := prog_1_method_10_code
def yX10_force : MethodName := ⟨RX10, "force", "(I)I"⟩
abbrev cX10_shape : ByteArray := prog_1_method_11_code
def yX10_shape : MethodName := ⟨RX10, "shape", "(III)I"⟩
abbrev cX10_loaf : ByteArray := prog_1_method_12_code
def yX10_loaf : MethodName := ⟨RX10, "loaf", "(I)I"⟩
abbrev cX10_shapeTold : ByteArray := prog_1_method_13_code
def yX10_shapeTold : MethodName := ⟨RX10, "shapeTold", "(II)I"⟩
abbrev cX10_within : ByteArray := prog_1_method_14_code
def yX10_within : MethodName := ⟨RX10, "within", "(II)I"⟩
abbrev cX10_size : ByteArray := prog_1_method_15_code
def yX10_size : MethodName := ⟨RX10, "size", "(I)I"⟩
abbrev cX10_both : ByteArray := prog_1_method_16_code
def yX10_both : MethodName := ⟨RX10, "both", "(III)I"⟩
abbrev cX10_laid : ByteArray := prog_1_method_17_code
def yX10_laid : MethodName := ⟨RX10, "laid", "(II)I"⟩
abbrev cX10_ravine : ByteArray := prog_1_method_18_code
def yX10_ravine : MethodName := ⟨RX10, "ravine", "(IIIII)I"⟩
abbrev cX10_steps : ByteArray := prog_1_method_19_code
def yX10_steps : MethodName := ⟨RX10, "steps", "(II)I"⟩
abbrev cX10_person : ByteArray := prog_1_method_20_code
def yX10_person : MethodName := ⟨RX10, "person", "(II)I"⟩
abbrev cX10_moves : ByteArray := prog_1_method_21_code
def yX10_moves : MethodName := ⟨RX10, "moves", "(II)I"⟩
abbrev cX10_personTold : ByteArray := prog_1_method_22_code
def yX10_personTold : MethodName := ⟨RX10, "personTold", "(II)I"⟩
abbrev cX10_well : ByteArray := prog_1_method_23_code
def yX10_well : MethodName := ⟨RX10, "well", "(I)I"⟩
abbrev cX10_may : ByteArray := prog_1_method_24_code
def yX10_may : MethodName := ⟨RX10, "may", "(III)I"⟩
abbrev cX10_wells : ByteArray := prog_1_method_25_code
def yX10_wells : MethodName := ⟨RX10, "wells", "(II)I"⟩
abbrev cX10_who : ByteArray := prog_1_method_26_code
def yX10_who : MethodName := ⟨RX10, "who", "(II)I"⟩
abbrev cX10_meet : ByteArray := prog_1_method_27_code
def yX10_meet : MethodName := ⟨RX10, "meet", "(III)I"⟩
abbrev cX10_shed : ByteArray := prog_1_method_28_code
def yX10_shed : MethodName := ⟨RX10, "shed", "(II)I"⟩
abbrev cX10_bridge : ByteArray := prog_1_method_29_code
def yX10_bridge : MethodName := ⟨RX10, "bridge", "(III)I"⟩
abbrev cX10_count : ByteArray := prog_1_method_30_code
def yX10_count : MethodName := ⟨RX10, "count", "(I)I"⟩
abbrev cX10_image : ByteArray := prog_1_method_31_code
def yX10_image : MethodName := ⟨RX10, "image", "()I"⟩
abbrev cX10_back : ByteArray := prog_1_method_32_code
def yX10_back : MethodName := ⟨RX10, "back", "()I"⟩
abbrev cX10_sheet : ByteArray := prog_1_method_33_code
def yX10_sheet : MethodName := ⟨RX10, "sheet", "(III)I"⟩
abbrev cX10_cell : ByteArray := prog_1_method_34_code
def yX10_cell : MethodName := ⟨RX10, "cell", "(III)I"⟩
abbrev cX10_copy : ByteArray := prog_1_method_35_code
def yX10_copy : MethodName := ⟨RX10, "copy", "(IIIII)I"⟩
abbrev cX10_houses : ByteArray := prog_1_method_36_code
def yX10_houses : MethodName := ⟨RX10, "houses", "(IIII)I"⟩
abbrev cX10_taken : ByteArray := prog_1_method_37_code
def yX10_taken : MethodName := ⟨RX10, "taken", "(II)I"⟩
abbrev cX10_isFrom : ByteArray := prog_1_method_38_code
def yX10_isFrom : MethodName := ⟨RX10, "isFrom", "(III)Z"⟩
abbrev cX10_isPlace : ByteArray := prog_1_method_39_code
def yX10_isPlace : MethodName := ⟨RX10, "isPlace", "(I)Z"⟩
abbrev cX10_isBit : ByteArray := prog_1_method_40_code
def yX10_isBit : MethodName := ⟨RX10, "isBit", "(I)Z"⟩
abbrev cX10_isSheet : ByteArray := prog_1_method_41_code
def yX10_isSheet : MethodName := ⟨RX10, "isSheet", "(I)Z"⟩
abbrev cX10_has : ByteArray := prog_1_method_42_code
def yX10_has : MethodName := ⟨RX10, "has", "(II)Z"⟩
abbrev cX10_apart : ByteArray := prog_1_method_43_code
def yX10_apart : MethodName := ⟨RX10, "apart", "(II)I"⟩
abbrev cX10_isOfKind : ByteArray := prog_1_method_44_code
def yX10_isOfKind : MethodName := ⟨RX10, "isOfKind", "(II)Z"⟩
abbrev cX10_enforce : ByteArray := prog_1_method_45_code
def yX10_enforce : MethodName := ⟨RX10, "enforce", "(I)V"⟩
abbrev cX10_reachOf : ByteArray := prog_1_method_46_code
def yX10_reachOf : MethodName := ⟨RX10, "reachOf", "(I)I"⟩
abbrev cX10_middleOf : ByteArray := prog_1_method_47_code
def yX10_middleOf : MethodName := ⟨RX10, "middleOf", "(I)I"⟩
abbrev cX10_measure : ByteArray := prog_1_method_48_code
def yX10_measure : MethodName := ⟨RX10, "measure", "(LStepsBeyond$Area;I)V"⟩
abbrev cX10_isOut : ByteArray := prog_1_method_49_code
def yX10_isOut : MethodName := ⟨RX10, "isOut", "(I)Z"⟩
abbrev cX10_whyNot : ByteArray := prog_1_method_50_code
def yX10_whyNot : MethodName := ⟨RX10, "whyNot", "(IIII)I"⟩
abbrev cX10_meetingPlace : ByteArray := prog_1_method_51_code
def yX10_meetingPlace : MethodName := ⟨RX10, "meetingPlace", "(II)I"⟩
abbrev cX10_houseTaken : ByteArray := prog_1_method_52_code
def yX10_houseTaken : MethodName := ⟨RX10, "houseTaken", "(II)I"⟩
abbrev cX10_shapeTaken : ByteArray := prog_1_method_53_code
def yX10_shapeTaken : MethodName := ⟨RX10, "shapeTaken", "(II)I"⟩
def RX11 : String := "StepsBeyondModel"
def TX11 : u_T := fun k => match k with
  | 0 => ("StepsBeyondModel", "houses", "I", false)
  | 1 => ("StepsBeyondModel", "place", "[I", true)
  | 2 => ("StepsBeyondModel", "isHut", "[I", true)
  | 3 => ("StepsBeyondModel", "shapes", "I", false)
  | 4 => ("StepsBeyondModel", "kind", "[I", true)
  | 5 => ("StepsBeyondModel", "houseOf", "[I", true)
  | 6 => ("StepsBeyondModel", "more", "[I", true)
  | 7 => ("StepsBeyondModel", "loaf", "I", false)
  | 8 => ("StepsBeyondModel", "ravines", "I", false)
  | 9 => ("StepsBeyondModel", "ravineWay", "[I", true)
  | 10 => ("StepsBeyondModel", "ravineAt", "[I", true)
  | 11 => ("StepsBeyondModel", "ravineFrom", "[I", true)
  | 12 => ("StepsBeyondModel", "ravineTo", "[I", true)
  | 13 => ("StepsBeyondModel", "ravineWide", "[I", true)
  | 14 => ("StepsBeyondModel", "people", "I", false)
  | 15 => ("StepsBeyondModel", "personAt", "[I", true)
  | 16 => ("StepsBeyondModel", "bound", "[I", true)
  | 17 => ("StepsBeyondModel", "wells", "I", false)
  | 18 => ("StepsBeyondModel", "wellAt", "[I", true)
  | 19 => ("StepsBeyondModel", "tape", "[I", true)
  | 20 => ("StepsBeyondModel", "taped", "I", false)
  | 21 => ("StepsBeyondModel", "codes", "[I", true)
  | 22 => ("StepsBeyondModel", "starts", "[I", true)
  | 23 => ("StepsBeyondModel", "texts", "I", false)
  | 24 => ("StepsBeyondModel", "rule", "I", false)
  | 25 => ("StepsBeyondModel", "hasImage", "Z", false)
  | 26 => ("StepsBeyondModel", "imageHouses", "I", false)
  | 27 => ("StepsBeyondModel", "imagePeople", "I", false)
  | 28 => ("StepsBeyondModel", "imageLoaf", "I", false)
  | 29 => ("StepsBeyondModel", "imageRule", "I", false)
  | 30 => ("StepsBeyondModel", "imageHut", "[I", true)
  | 31 => ("StepsBeyondModel", "imageAt", "[I", true)
  | 32 => ("StepsBeyondModel", "sheetSort", "[I", true)
  | 33 => ("StepsBeyondModel", "sheetSize", "[I", true)
  | 34 => ("StepsBeyondModel", "cells", "[I", true)
  | 35 => ("StepsBeyondModel", "at", "I", false)
  | 36 => ("StepsBeyondModel", "begun", "I", false)
  | 37 => ("StepsBeyondModel", "token", "I", false)
  | 38 => ("StepsBeyondModel", "value", "I", false)
  | 39 => ("StepsBeyondModel", "words", "[J", true)
  | 40 => ("StepsBeyondModel", "held", "[I", true)
  | 41 => ("StepsBeyondModel", "heldMany", "I", false)
  | 42 => ("StepsBeyondModel", "opens", "I", false)
  | 43 => ("StepsBeyondModel", "out", "I", false)
  | 44 => ("StepsBeyondModel", "stack", "[I", true)
  | 45 => ("StepsBeyondModel", "named", "[I", true)
  | 46 => ("StepsBeyondModel", "nowReach", "I", false)
  | 47 => ("StepsBeyondModel", "nowTown", "I", false)
  | 48 => ("StepsBeyondModel", "lowX", "I", false)
  | 49 => ("StepsBeyondModel", "highX", "I", false)
  | 50 => ("StepsBeyondModel", "lowY", "I", false)
  | 51 => ("StepsBeyondModel", "highY", "I", false)
  | 52 => ("StepsBeyondModel", "inOne", "[Z", true)
  | 53 => ("StepsBeyondModel", "inOther", "[Z", true)
  | 54 => ("StepsBeyondModel", "least", "[I", true)
  | 55 => ("StepsBeyondModel", "ring", "[I", true)
  | 56 => ("StepsBeyondModel", "waits", "[Z", true)
  | 57 => ("StepsBeyondModel", "ringFrom", "I", false)
  | 58 => ("StepsBeyondModel", "ringMany", "I", false)
  | _ => ("StepsBeyondModel", "kept", "[I", true)
def tyX11 : Nat → FieldType := fun k => match k with
  | 0 => .int
  | 1 => .array .int
  | 2 => .array .int
  | 3 => .int
  | 4 => .array .int
  | 5 => .array .int
  | 6 => .array .int
  | 7 => .int
  | 8 => .int
  | 9 => .array .int
  | 10 => .array .int
  | 11 => .array .int
  | 12 => .array .int
  | 13 => .array .int
  | 14 => .int
  | 15 => .array .int
  | 16 => .array .int
  | 17 => .int
  | 18 => .array .int
  | 19 => .array .int
  | 20 => .int
  | 21 => .array .int
  | 22 => .array .int
  | 23 => .int
  | 24 => .int
  | 25 => .boolean
  | 26 => .int
  | 27 => .int
  | 28 => .int
  | 29 => .int
  | 30 => .array .int
  | 31 => .array .int
  | 32 => .array .int
  | 33 => .array .int
  | 34 => .array .int
  | 35 => .int
  | 36 => .int
  | 37 => .int
  | 38 => .int
  | 39 => .array .long
  | 40 => .array .int
  | 41 => .int
  | 42 => .int
  | 43 => .int
  | 44 => .array .int
  | 45 => .array .int
  | 46 => .int
  | 47 => .int
  | 48 => .int
  | 49 => .int
  | 50 => .int
  | 51 => .int
  | 52 => .array .boolean
  | 53 => .array .boolean
  | 54 => .array .int
  | 55 => .array .int
  | 56 => .array .boolean
  | 57 => .int
  | 58 => .int
  | _ => .array .int
abbrev wsX110 : List Cond := u_ws RX11 TX11 60
theorem nmX11 : ∀ a, a < 60 → ∀ b, b < 60 → a ≠ b → (TX11 a).2.1 ≠ (TX11 b).2.1 := by decide +kernel
theorem tyX11_ok : ∀ k, k < 60 → parseFieldDescriptor (TX11 k).2.2.1 = some (tyX11 k) := by decide +kernel
abbrev cX11_init : ByteArray := prog_13_method_1_code
def yX11_init : MethodName := ⟨RX11, "<init>", "()V"⟩
abbrev cX11_first : ByteArray := prog_13_method_2_code
def yX11_first : MethodName := ⟨RX11, "first", "(IIIII)V"⟩
abbrev cX11_in : ByteArray := prog_13_method_4_code
def yX11_in : MethodName := ⟨RX11, "in", "(III)Z"⟩
abbrev cX11_isPlace : ByteArray := prog_13_method_5_code
def yX11_isPlace : MethodName := ⟨RX11, "isPlace", "(I)Z"⟩
abbrev cX11_isHouse : ByteArray := prog_13_method_6_code
def yX11_isHouse : MethodName := ⟨RX11, "isHouse", "(I)Z"⟩
abbrev cX11_abs : ByteArray := prog_13_method_7_code
def yX11_abs : MethodName := ⟨RX11, "abs", "(I)I"⟩
abbrev cX11_apart : ByteArray := prog_13_method_8_code
def yX11_apart : MethodName := ⟨RX11, "apart", "(II)I"⟩
abbrev cX11_house : ByteArray := prog_13_method_9_code
def yX11_house : MethodName := ⟨RX11, "house", "(II)I"⟩
abbrev cX11_hut : ByteArray := prog_13_method_10_code
def yX11_hut : MethodName := ⟨RX11, "hut", "(II)I"⟩
abbrev cX11_feed : ByteArray := prog_13_method_11_code
def yX11_feed : MethodName := ⟨RX11, "feed", "(JI)I"⟩
abbrev cX11_letters : ByteArray := prog_13_method_12_code
def yX11_letters : MethodName := ⟨RX11, "letters", "()J"⟩
abbrev cX11_next : ByteArray := prog_13_method_13_code
def yX11_next : MethodName := ⟨RX11, "next", "()V"⟩
abbrev cX11_rank : ByteArray := prog_13_method_14_code
def yX11_rank : MethodName := ⟨RX11, "rank", "(I)I"⟩
abbrev cX11_puts : ByteArray := prog_13_method_15_code
def yX11_puts : MethodName := ⟨RX11, "puts", "(I)V"⟩
abbrev cX11_unwinds : ByteArray := prog_13_method_16_code
def yX11_unwinds : MethodName := ⟨RX11, "unwinds", "(I)V"⟩
abbrev cX11_holds : ByteArray := prog_13_method_17_code
def yX11_holds : MethodName := ⟨RX11, "holds", "(I)V"⟩
abbrev cX11_opensOne : ByteArray := prog_13_method_18_code
def yX11_opensOne : MethodName := ⟨RX11, "opensOne", "(I)Z"⟩
abbrev cX11_between : ByteArray := prog_13_method_19_code
def yX11_between : MethodName := ⟨RX11, "between", "(I)Z"⟩
abbrev cX11_signOf : ByteArray := prog_13_method_20_code
def yX11_signOf : MethodName := ⟨RX11, "signOf", "()I"⟩
abbrev cX11_eRead : ByteArray := prog_13_method_21_code
def yX11_eRead : MethodName := ⟨RX11, "eRead", "()Z"⟩
abbrev cX11_text : ByteArray := prog_13_method_22_code
def yX11_text : MethodName := ⟨RX11, "text", "()I"⟩
abbrev cX11_two : ByteArray := prog_13_method_23_code
def yX11_two : MethodName := ⟨RX11, "two", "(III)I"⟩
abbrev cX11_worth : ByteArray := prog_13_method_24_code
def yX11_worth : MethodName := ⟨RX11, "worth", "(I)I"⟩
abbrev cX11_force : ByteArray := prog_13_method_25_code
def yX11_force : MethodName := ⟨RX11, "force", "(I)I"⟩
abbrev cX11_areNear : ByteArray := prog_13_method_26_code
def yX11_areNear : MethodName := ⟨RX11, "areNear", "(III)Z"⟩
abbrev cX11_nearTwo : ByteArray := prog_13_method_27_code
def yX11_nearTwo : MethodName := ⟨RX11, "nearTwo", "(II)Z"⟩
abbrev cX11_near : ByteArray := prog_13_method_28_code
def yX11_near : MethodName := ⟨RX11, "near", "(II)I"⟩
abbrev cX11_farBy : ByteArray := prog_13_method_29_code
def yX11_farBy : MethodName := ⟨RX11, "farBy", "(I)I"⟩
abbrev cX11_far : ByteArray := prog_13_method_30_code
def yX11_far : MethodName := ⟨RX11, "far", "(I)I"⟩
abbrev cX11_reached : ByteArray := prog_13_method_31_code
def yX11_reached : MethodName := ⟨RX11, "reached", "(II)I"⟩
abbrev cX11_all : ByteArray := prog_13_method_32_code
def yX11_all : MethodName := ⟨RX11, "all", "()I"⟩
abbrev cX11_townOf : ByteArray := prog_13_method_33_code
def yX11_townOf : MethodName := ⟨RX11, "townOf", "(I)I"⟩
abbrev cX11_town : ByteArray := prog_13_method_34_code
def yX11_town : MethodName := ⟨RX11, "town", "(I)I"⟩
abbrev cX11_lowBit : ByteArray := prog_13_method_35_code
def yX11_lowBit : MethodName := ⟨RX11, "lowBit", "(I)I"⟩
abbrev cX11_burn : ByteArray := prog_13_method_36_code
def yX11_burn : MethodName := ⟨RX11, "burn", "(I)I"⟩
abbrev cX11_shape : ByteArray := prog_13_method_37_code
def yX11_shape : MethodName := ⟨RX11, "shape", "(III)I"⟩
abbrev cX11_isShape : ByteArray := prog_13_method_38_code
def yX11_isShape : MethodName := ⟨RX11, "isShape", "(I)Z"⟩
abbrev cX11_loaf : ByteArray := prog_13_method_39_code
def yX11_loaf : MethodName := ⟨RX11, "loaf", "(I)I"⟩
abbrev cX11_reach : ByteArray := prog_13_method_40_code
def yX11_reach : MethodName := ⟨RX11, "reach", "(I)I"⟩
abbrev cX11_middle : ByteArray := prog_13_method_41_code
def yX11_middle : MethodName := ⟨RX11, "middle", "(I)I"⟩
abbrev cX11_shapeTold : ByteArray := prog_13_method_42_code
def yX11_shapeTold : MethodName := ⟨RX11, "shapeTold", "(II)I"⟩
abbrev cX11_spans : ByteArray := prog_13_method_43_code
def yX11_spans : MethodName := ⟨RX11, "spans", "(I)V"⟩
abbrev cX11_looks : ByteArray := prog_13_method_44_code
def yX11_looks : MethodName := ⟨RX11, "looks", "(I)V"⟩
abbrev cX11_isBox : ByteArray := prog_13_method_45_code
def yX11_isBox : MethodName := ⟨RX11, "isBox", "(II)Z"⟩
abbrev cX11_byHouses : ByteArray := prog_13_method_46_code
def yX11_byHouses : MethodName := ⟨RX11, "byHouses", "(I)Z"⟩
abbrev cX11_isIn : ByteArray := prog_13_method_47_code
def yX11_isIn : MethodName := ⟨RX11, "isIn", "(II)Z"⟩
abbrev cX11_within : ByteArray := prog_13_method_48_code
def yX11_within : MethodName := ⟨RX11, "within", "(II)I"⟩
abbrev cX11_marksOne : ByteArray := prog_13_method_49_code
def yX11_marksOne : MethodName := ⟨RX11, "marksOne", "(I)I"⟩
abbrev cX11_marksOther : ByteArray := prog_13_method_50_code
def yX11_marksOther : MethodName := ⟨RX11, "marksOther", "(I)V"⟩
abbrev cX11_size : ByteArray := prog_13_method_51_code
def yX11_size : MethodName := ⟨RX11, "size", "(I)I"⟩
abbrev cX11_both : ByteArray := prog_13_method_52_code
def yX11_both : MethodName := ⟨RX11, "both", "(III)I"⟩
abbrev cX11_laid : ByteArray := prog_13_method_53_code
def yX11_laid : MethodName := ⟨RX11, "laid", "(II)I"⟩
abbrev cX11_ravine : ByteArray := prog_13_method_54_code
def yX11_ravine : MethodName := ⟨RX11, "ravine", "(IIIII)I"⟩
abbrev cX11_cost : ByteArray := prog_13_method_55_code
def yX11_cost : MethodName := ⟨RX11, "cost", "(III)I"⟩
abbrev cX11_tries : ByteArray := prog_13_method_56_code
def yX11_tries : MethodName := ⟨RX11, "tries", "(III)V"⟩
abbrev cX11_spreads : ByteArray := prog_13_method_57_code
def yX11_spreads : MethodName := ⟨RX11, "spreads", "(I)V"⟩
abbrev cX11_steps : ByteArray := prog_13_method_58_code
def yX11_steps : MethodName := ⟨RX11, "steps", "(II)I"⟩
abbrev cX11_person : ByteArray := prog_13_method_59_code
def yX11_person : MethodName := ⟨RX11, "person", "(II)I"⟩
abbrev cX11_isPerson : ByteArray := prog_13_method_60_code
def yX11_isPerson : MethodName := ⟨RX11, "isPerson", "(I)Z"⟩
abbrev cX11_moves : ByteArray := prog_13_method_61_code
def yX11_moves : MethodName := ⟨RX11, "moves", "(II)I"⟩
abbrev cX11_isOut : ByteArray := prog_13_method_62_code
def yX11_isOut : MethodName := ⟨RX11, "isOut", "(I)Z"⟩
abbrev cX11_personTold : ByteArray := prog_13_method_63_code
def yX11_personTold : MethodName := ⟨RX11, "personTold", "(II)I"⟩
abbrev cX11_well : ByteArray := prog_13_method_64_code
def yX11_well : MethodName := ⟨RX11, "well", "(I)I"⟩
abbrev cX11_why : ByteArray := prog_13_method_65_code
def yX11_why : MethodName := ⟨RX11, "why", "(III)I"⟩
abbrev cX11_may : ByteArray := prog_13_method_66_code
def yX11_may : MethodName := ⟨RX11, "may", "(III)I"⟩
abbrev cX11_wells : ByteArray := prog_13_method_67_code
def yX11_wells : MethodName := ⟨RX11, "wells", "(II)I"⟩
abbrev cX11_who : ByteArray := prog_13_method_68_code
def yX11_who : MethodName := ⟨RX11, "who", "(II)I"⟩
abbrev cX11_meet : ByteArray := prog_13_method_69_code
def yX11_meet : MethodName := ⟨RX11, "meet", "(III)I"⟩
abbrev cX11_joins : ByteArray := prog_13_method_70_code
def yX11_joins : MethodName := ⟨RX11, "joins", "(II)Z"⟩
abbrev cX11_shed : ByteArray := prog_13_method_71_code
def yX11_shed : MethodName := ⟨RX11, "shed", "(II)I"⟩
abbrev cX11_bridge : ByteArray := prog_13_method_72_code
def yX11_bridge : MethodName := ⟨RX11, "bridge", "(III)I"⟩
abbrev cX11_count : ByteArray := prog_13_method_73_code
def yX11_count : MethodName := ⟨RX11, "count", "(I)I"⟩
abbrev cX11_image : ByteArray := prog_13_method_74_code
def yX11_image : MethodName := ⟨RX11, "image", "()I"⟩
abbrev cX11_back : ByteArray := prog_13_method_75_code
def yX11_back : MethodName := ⟨RX11, "back", "()I"⟩
abbrev cX11_sheet : ByteArray := prog_13_method_76_code
def yX11_sheet : MethodName := ⟨RX11, "sheet", "(III)I"⟩
abbrev cX11_cell : ByteArray := prog_13_method_77_code
def yX11_cell : MethodName := ⟨RX11, "cell", "(III)I"⟩
abbrev cX11_copy : ByteArray := prog_13_method_78_code
def yX11_copy : MethodName := ⟨RX11, "copy", "(IIIII)I"⟩
abbrev cX11_houses : ByteArray := prog_13_method_79_code
def yX11_houses : MethodName := ⟨RX11, "houses", "(IIII)I"⟩
abbrev cX11_isUnder : ByteArray := prog_13_method_80_code
def yX11_isUnder : MethodName := ⟨RX11, "isUnder", "(II)Z"⟩
abbrev cX11_taken : ByteArray := prog_13_method_81_code
def yX11_taken : MethodName := ⟨RX11, "taken", "(II)I"⟩
def RJx145de : String := "java/io/Serializable"
def RJx9f9b0 : String := "java/lang/CharSequence"
def RJx8e188 : String := "java/lang/Cloneable"
def RJxb160c : String := "java/lang/Comparable"
def RJ9 : String := "java/lang/Math"
abbrev cJ9_abs_0f7a4 : ByteArray := prog_15_method_59_code
def yJ9_abs_0f7a4 : MethodName := ⟨RJ9, "abs", "(I)I"⟩
abbrev cJ9_max_7cf53 : ByteArray := prog_15_method_65_code
def yJ9_max_7cf53 : MethodName := ⟨RJ9, "max", "(II)I"⟩
abbrev cJ9_min_7cf53 : ByteArray := prog_15_method_69_code
def yJ9_min_7cf53 : MethodName := ⟨RJ9, "min", "(II)I"⟩
def RJ0 : String := "java/lang/String"
abbrev cJ0_length_8abf5 : ByteArray := prog_16_method_54_code
def yJ0_length_8abf5 : MethodName := ⟨RJ0, "length", "()I"⟩
abbrev cJ0_charAt_5068e : ByteArray := prog_16_method_56_code
def yJ0_charAt_5068e : MethodName := ⟨RJ0, "charAt", "(I)C"⟩
abbrev cJ0_coder_7d493 : ByteArray := prog_16_method_152_code
def yJ0_coder_7d493 : MethodName := ⟨RJ0, "coder", "()B"⟩
abbrev cJ0_isLatin1_aae02 : ByteArray := prog_16_method_154_code
def yJ0_isLatin1_aae02 : MethodName := ⟨RJ0, "isLatin1", "()Z"⟩
abbrev cJ0_checkIndex_df160 : ByteArray := prog_16_method_155_code
def yJ0_checkIndex_df160 : MethodName := ⟨RJ0, "checkIndex", "(II)V"⟩
def RJ1 : String := "java/lang/StringLatin1"
abbrev cJ1_charAt_3b067 : ByteArray := prog_17_method_2_code
def yJ1_charAt_3b067 : MethodName := ⟨RJ1, "charAt", "([BI)C"⟩
def RJ2 : String := "java/lang/StringUTF16"
abbrev cJ2_getChar_3b067 : ByteArray := prog_18_method_5_code
def yJ2_getChar_3b067 : MethodName := ⟨RJ2, "getChar", "([BI)C"⟩
abbrev cJ2_length_9d52b : ByteArray := prog_18_method_6_code
def yJ2_length_9d52b : MethodName := ⟨RJ2, "length", "([B)I"⟩
abbrev cJ2_charAt_3b067 : ByteArray := prog_18_method_83_code
def yJ2_charAt_3b067 : MethodName := ⟨RJ2, "charAt", "([BI)C"⟩
abbrev cJ2_checkIndex_2214a : ByteArray := prog_18_method_91_code
def yJ2_checkIndex_2214a : MethodName := ⟨RJ2, "checkIndex", "(I[B)V"⟩
def RJ10 : String := "java/lang/System"
def RJxfd54e : String := "java/lang/constant/Constable"
def RJx3cf43 : String := "java/lang/constant/ConstantDesc"
def RJ7 : String := "java/util/Arrays"
abbrev cJ7_fill_53178 : ByteArray := prog_20_method_103_code
def yJ7_fill_53178 : MethodName := ⟨RJ7, "fill", "([II)V"⟩
abbrev cJ7_checkLength_df160 : ByteArray := prog_20_method_131_code
def yJ7_checkLength_df160 : MethodName := ⟨RJ7, "checkLength", "(II)V"⟩
abbrev cJ7_copyOfRange_feecc : ByteArray := prog_20_method_136_code
def yJ7_copyOfRange_feecc : MethodName := ⟨RJ7, "copyOfRange", "([III)[I"⟩
abbrev cJ7_copyOfRangeInt_feecc : ByteArray := prog_20_method_137_code
def yJ7_copyOfRangeInt_feecc : MethodName := ⟨RJ7, "copyOfRangeInt", "([III)[I"⟩
def RJ3 : String := "jdk/internal/util/Preconditions"
abbrev cJ3_checkIndex_8e157 : ByteArray := prog_21_method_11_code
def yJ3_checkIndex_8e157 : MethodName := ⟨RJ3, "checkIndex", "(IILjava/util/function/BiFunction;)I"⟩
def RL : String := "StepsBeyondLaw"
abbrev cL_law : ByteArray := code
def yL_law : MethodName := ⟨RL, "law", "([I)Z"⟩

abbrev classes : List vw_C := [(RX0, TX0, 9), (RX1, TX1, 7), (RX2, TX2, 2), (RX3, TX3, 3), (RX4, TX4, 9), (RX5, TX5, 3), (RX6, TX6, 4), (RX7, TX7, 3), (RX8, TX8, 3), (RX9, TX9, 9), (RX10, TX10, 16), (RX11, TX11, 60)]
end
section
/-! THE WALK'S OWN WORDS: V, the machine at a place of a method, over a world and named locals; zM, a method's contract; every row turns V at an instruction into V at the next, and takes with it what is left of the method's pure function (hf). -/
def zW : List Cond := lw_tbl.filter goodWord
abbrev zS : Type := (Nat → Int32) × (Nat → Nat → Int32)
abbrev zD : Type := va_G × ClassId × ClassId × ClassId × ClassId × ((Nat → Prop) → State → Prop)
def zt (d : zD) : List (ClassId × FieldType) := [(d.2.1, .int), (d.2.2.1, .boolean), (d.2.2.2.1, .long), (d.2.2.2.2.1, .array .int)]
def zsg (σ : zS) (k : Nat) (v : Int32) : zS := (upd σ.1 k v, σ.2)
def zsa (σ : zS) (k : Nat) (i : Int32) (v : Int32) : zS := (σ.1, va_up σ.2 k (upd (σ.2 k) i.toNatClampNeg v))
def zlt {α β : Type} (x : α) (f : α → β) : β := f x
def zin {β : Type} (i : Int32) (n : Nat) (x : Option β) : Option β := if i < 0 ∨ n ≤ i.toNatClampNeg then none else x
def znz {β : Type} (y : Int32) (x : Option β) : Option β := if y = 0 then none else x
def zbo {β : Type} (y : Int32) (x : Option β) : Option β := if vp_nar .boolean y = y then x else none
def zbd {α β : Type} (x : Option (α × zS)) (f : α → zS → Option β) : Option β := match x with
  | none => none
  | some q => f q.1 q.2
def zrem (x y : Int32) : Int32 := x - x / y * y
def zshl (x y : Int32) : Int32 := x <<< (y &&& 31)
def zshr (x y : Int32) : Int32 := x >>> (y &&& 31)
def zfu : Nat := 18446744073709551616
def zp : Nat → List (Option Value) → List (Nat × Value)
  | _, [] => []
  | i, none :: t => zp (i + 1) t
  | i, some v :: t => (i, v) :: zp (i + 1) t
theorem zp_mem {v : Value} {i : Nat} : ∀ (lv : List (Option Value)) (k : Nat), (i, v) ∈ zp k lv ↔ ∃ j, i = k + j ∧ lv[j]? = some (some v)
  | [], k => by simp [zp]
  | none :: t, k => by
    rw [zp, zp_mem t (k + 1)]
    constructor
    · rintro ⟨j, h1, h2⟩
      exact ⟨j + 1, by omega, by simpa using h2⟩
    · rintro ⟨j, h1, h2⟩
      cases j with
      | zero => simp at h2
      | succ j => exact ⟨j, by omega, by simpa using h2⟩
  | some w :: t, k => by
    rw [zp, List.mem_cons, zp_mem t (k + 1)]
    constructor
    · rintro (h | ⟨j, h1, h2⟩)
      · cases h
        exact ⟨0, by omega, by simp⟩
      · exact ⟨j + 1, by omega, by simpa using h2⟩
    · rintro ⟨j, h1, h2⟩
      cases j with
      | zero =>
        simp at h2
        subst h2
        exact Or.inl (by simp at h1; rw [h1])
      | succ j => exact Or.inr ⟨j, by omega, by simpa using h2⟩
def zh (ls : Array Slot) (nL : Nat) (lv : List (Option Value)) : Prop := lv_has ls nL (zp 0 lv)
theorem zh_at {ls : Array Slot} {nL : Nat} {lv : List (Option Value)} (h : zh ls nL lv) {i : Nat} {v : Value} (hk : lv[i]? = some (some v)) : ls[i]? = some (.val v) := h.2.2 (i, v) ((zp_mem lv 0).mpr ⟨i, by omega, hk⟩)
theorem zh_of {ls : Array Slot} {nL : Nat} {l : List (Nat × Value)} {lv : List (Option Value)} (h : lv_has ls nL l) (hm : ∀ i v, lv[i]? = some (some v) → (i, v) ∈ l) : zh ls nL lv := ⟨h.1, h.2.1, fun q hq => by
  obtain ⟨i, v⟩ := q
  obtain ⟨j, h1, h2⟩ := (zp_mem lv 0).mp hq
  have : i = j := by omega
  subst this
  exact h.2.2 _ (hm i v h2)⟩
/-- fewer locals -/
def zle : List (Option Value) → List (Option Value) → Prop
  | [], _ => True
  | none :: a, _ :: b => zle a b
  | some v :: a, x :: b => x = some v ∧ zle a b
  | none :: a, [] => zle a []
  | some _ :: _, [] => False
theorem zle_at : ∀ (a b : List (Option Value)), zle a b → ∀ (i : Nat) (v : Value), a[i]? = some (some v) → b[i]? = some (some v)
  | [], _, _, i, v, h => by simp at h
  | none :: a, x :: b, hz, i, v, h => by
    cases i with
    | zero => simp at h
    | succ i => simpa using zle_at a b hz i v (by simpa using h)
  | some w :: a, x :: b, hz, i, v, h => by
    cases i with
    | zero =>
      simp at h
      subst h
      simp [hz.1]
    | succ i => simpa using zle_at a b hz.2 i v (by simpa using h)
  | none :: a, [], hz, i, v, h => by
    cases i with
    | zero => simp at h
    | succ i => exact absurd (zle_at a [] hz i v (by simpa using h)) (by simp)
  | some _ :: _, [], hz, _, _, _ => hz.elim
theorem zE {b : List (Option Value)} : zle [] b := trivial
theorem zN {a b : List (Option Value)} {x : Option Value} (h : zle a b) : zle (none :: a) (x :: b) := h
theorem zA {a b : List (Option Value)} {v : Value} (h : zle a b) : zle (some v :: a) (some v :: b) := ⟨rfl, h⟩
theorem zh_le {ls : Array Slot} {nL : Nat} {a b : List (Option Value)} (h : zh ls nL b) (hz : zle a b) : zh ls nL a := zh_of h (fun i v hi => (zp_mem b 0).mpr ⟨i, by omega, zle_at a b hz i v hi⟩)
/-- a place ahead is no long -/
def z1 (lv : List (Option Value)) (i : Nat) : Bool := match i with
  | 0 => true
  | j + 1 => match lv[j]? with
    | some (some v) => v.category == 1
    | _ => true
theorem zh_set1 {ls : Array Slot} {nL i : Nat} {v : Value} {lv : List (Option Value)} (h : lv_has ls nL ((i, v) :: (zp 0 lv).filter (fun q => !(q.1 == i) && !(q.1 + 1 == i && q.2.category == 2)))) (h1 : z1 lv i = true) : zh ls nL (lv.set i (some v)) := by
  refine zh_of h (fun j w hj => ?_)
  rw [List.getElem?_set] at hj
  by_cases hji : i = j
  · rw [if_pos hji] at hj
    split at hj
    · cases hj
      subst hji
      exact List.mem_cons_self
    · cases hj
  · rw [if_neg hji] at hj
    refine List.mem_cons_of_mem _ (List.mem_filter.mpr ⟨(zp_mem lv 0).mpr ⟨j, by omega, hj⟩, ?_⟩)
    have e1 : (j == i) = false := by simp; omega
    by_cases hp : j + 1 = i
    · subst hp
      simp only [z1, hj] at h1
      have : w.category = 1 := by simpa using h1
      simp [this]
    · have e2 : (j + 1 == i) = false := by simp [hp]
      simp [e2]; omega
theorem zh_set2 {ls : Array Slot} {nL i : Nat} {v : Value} {lv : List (Option Value)} (h : lv_has ls nL ((i, v) :: (zp 0 lv).filter (fun q => !(q.1 == i) && (!(q.1 == i + 1) && !(q.1 + 1 == i && q.2.category == 2))))) (h1 : z1 lv i = true) : zh ls nL ((lv.set i (some v)).set (i + 1) none) := by
  refine zh_of h (fun j w hj => ?_)
  rw [List.getElem?_set] at hj
  by_cases hji1 : i + 1 = j
  · rw [if_pos hji1] at hj
    split at hj
    · cases hj
    · cases hj
  · rw [if_neg hji1, List.getElem?_set] at hj
    by_cases hji : i = j
    · rw [if_pos hji] at hj
      split at hj
      · cases hj
        subst hji
        exact List.mem_cons_self
      · cases hj
    · rw [if_neg hji] at hj
      refine List.mem_cons_of_mem _ (List.mem_filter.mpr ⟨(zp_mem lv 0).mpr ⟨j, by omega, hj⟩, ?_⟩)
      have e1 : (j == i) = false := by simp; omega
      have e3 : (j == i + 1) = false := by simp; omega
      by_cases hp : j + 1 = i
      · subst hp
        simp only [z1, hj] at h1
        have : w.category = 1 := by simpa using h1
        simp [this]; omega
      · have e2 : (j + 1 == i) = false := by simp [hp]
        simp [e2]; omega
abbrev zF : Type := Program × Env × Room × State × MethodId × Array Value × List Frame × Method × Code × (State → Prop) × (Nat → Prop)
def V (l : Launch) (d : zD) (F : zF) (k n : Nat) (ws : va_W) (lv : List (Option Value)) (pc : Nat) (st : List Value) : Prop := match F with
  | (p, e, R, s, m, args, below, meth, c, Q, A) => ∀ (H : Heap) (locs : List Loc) (ls : Array Slot), va_P d.1 classes ws H → va_D A ws → va_S A s.heap H locs → zh ls c.maxLocals lv → W p l e R s m args below meth c H locs k n Q (F0 m pc ls st)
/-- what a walk may take along of the world that nobody writes: it goes to less, to later states, to a callee's frame -/
def zEc (E : (Nat → Prop) → State → Prop) : Prop := (∀ (A B : Nat → Prop) (U : State), (∀ q, B q → A q) → E A U → E B U) ∧ (∀ (A : Nat → Prop) (s U : State), s.WarmedH U.vm → s.heap.size ≤ U.heap.size → (∀ a : Nat, a < s.heap.size → ¬ A a → U.heap[a]? = s.heap[a]?) → E A s → E A U) ∧ ∀ (A : Nat → Prop) (U : State) (g : JFrame) (mk : MethodId) (a : Array Value), E A U → E A (U.calling g mk a)
def zOk (d : zD) (F : zF) (own : String) (cc : ByteArray) (nL fr lo : Nat) : Prop := match F with
  | (p, _, R, s, m, args, _, _, c, _, A) => p.tables.exec = Jvm.exec ∧ c.code = cc ∧ c.maxLocals = nL ∧ s.vm.findClass own = some m.cls ∧ (∀ w ∈ zW, w.before args s = true) ∧ (∀ q : Nat, s.heap.size ≤ q → A q) ∧ va_K d.1 classes (zt d) s ∧ fr ≤ R.frames ∧ lo ≤ R.locals ∧ zEc d.2.2.2.2.2 ∧ d.2.2.2.2.2 A s
def zQ (r : Option Value) (d : zD) (ws : va_W) (A : Nat → Prop) : Array Value → State → Outcome → State → Prop := fun _ st oc t => (oc = .returned r ∧ va_P d.1 classes ws t.heap ∧ va_K d.1 classes (zt d) t ∧ va_D A ws) ∧ va_F A st t
def zRt (d : zD) (F : zF) (ret : Option FieldType) (r : Option Value) (ws : va_W) : Prop := match F with
  | (_, _, _, s, _, args, below, meth, _, Q, A) => Q = MQ below (zQ r d ws A) args s 0 0 A ∧ meth.sig.returnType = ret ∧ meth.locks = false
def zM (l : Launch) (y : MethodName) (cc : ByteArray) (nL : Nat) (ret : Option FieldType) (fr lo : Nat) (d : zD) (av : List Value) (ws ws' : va_W) (r : Option Value) : Prop := ∀ sz : Nat, Met l y (.code y cc nL ret :: zW) { frames := fr, cells := 0, slots := 0, locals := lo } (va_Pc av (fun U => U.heap.size = sz ∧ va_P d.1 classes ws U.heap ∧ va_K d.1 classes (zt d) U ∧ va_D (fun _ => True) ws ∧ zEc d.2.2.2.2.2 ∧ d.2.2.2.2.2 (va_A ws sz) U)) (zQ r d ws' (va_A ws sz)) 0 0 (va_A ws sz)
theorem zM_of {l : Launch} {y : MethodName} {cc : ByteArray} {nL : Nat} {ret : Option FieldType} {fr lo : Nat} {d : zD} {av : List Value} {ws ws' : va_W} {r : Option Value} (lv : List (Option Value)) (hy : plainName y.cls = true) (hlv : zp 0 lv = lv_args 0 av) (hn : (lg_sl av).length ≤ nL) (K : ∀ F : zF, zOk d F y.cls cc nL fr lo → zRt d F ret r ws' → V l d F 0 0 ws lv 0 []) : zM l y cc nL ret fr lo d av ws ws' r := by
  intro sz
  refine Met.ofW (cc := cc) (maxL := nL) (ret := ret) hy rfl ?_
  intro p e s m args below meth c s₁ B hml hv
  obtain ⟨rfl, hsz, hP, hK, hD0, hEc, hE⟩ := hv
  subst hsz
  have hts := atoms_spec (ws := .code y cc nL ret :: zW) B.pre
  have hD := hD0.self (sz := s.heap.size)
  have hl := lv_entry av (n := nL) hn
  rw [lg_entry_eq]
  refine K (p, e, _, s, m, _, below, meth, c, _, va_A ws s.heap.size) ⟨B.exec, B.bytes, hml, findClass_of_methodNamed B.named, fun w hw => hts w (List.mem_cons_of_mem _ hw), fun q h => Or.inr h, hK, Nat.le_refl _, Nat.le_refl _, hEc, hE⟩ ⟨rfl, B.returns, B.notSynchronized⟩ s.heap [] _ hP hD va_S.rf ?_
  rw [hml]
  unfold zh
  rw [hlv]
  exact hl

theorem zr_iconst {l : Launch} {d : zD} {F : zF} {k n : Nat} {ws : va_W} {lv : List (Option Value)} {pc : Nat} {st : List Value} {own : String} {cc : ByteArray} {nL fr lo : Nat} {v : Int32} (i : Int) (pc' : Nat) (C : zOk d F own cc nL fr lo) (hd : decode cc pc = .ok (.iconst i, 1)) (hp : pc + 1 = pc') (hv : Int32.ofInt i = v) (K : V l d F k n ws lv pc' (.int v :: st)) : V l d F k n ws lv pc (st) := by
  subst hp
  obtain ⟨p, e, R, s, m, args, below, meth, c, Q, A⟩ := F
  intro H locs ls hP hD hS hl
  exact lv_iconst C.1 C.2.1 hd hv (K H locs ls hP hD hS hl)
theorem zr_bipush {l : Launch} {d : zD} {F : zF} {k n : Nat} {ws : va_W} {lv : List (Option Value)} {pc : Nat} {st : List Value} {own : String} {cc : ByteArray} {nL fr lo : Nat} {v : Int32} (i : Int) (pc' : Nat) (C : zOk d F own cc nL fr lo) (hd : decode cc pc = .ok (.bipush i, 2)) (hp : pc + 2 = pc') (hv : (Int8.ofInt i).toInt32 = v) (K : V l d F k n ws lv pc' (.int v :: st)) : V l d F k n ws lv pc (st) := by
  subst hp
  obtain ⟨p, e, R, s, m, args, below, meth, c, Q, A⟩ := F
  intro H locs ls hP hD hS hl
  exact lv_bipush C.1 C.2.1 hd hv (K H locs ls hP hD hS hl)
theorem zr_sipush {l : Launch} {d : zD} {F : zF} {k n : Nat} {ws : va_W} {lv : List (Option Value)} {pc : Nat} {st : List Value} {own : String} {cc : ByteArray} {nL fr lo : Nat} {v : Int32} (i : Int) (pc' : Nat) (C : zOk d F own cc nL fr lo) (hd : decode cc pc = .ok (.sipush i, 3)) (hp : pc + 3 = pc') (hv : (Int16.ofInt i).toInt32 = v) (K : V l d F k n ws lv pc' (.int v :: st)) : V l d F k n ws lv pc (st) := by
  subst hp
  obtain ⟨p, e, R, s, m, args, below, meth, c, Q, A⟩ := F
  intro H locs ls hP hD hS hl
  exact lv_sipush C.1 C.2.1 hd hv (K H locs ls hP hD hS hl)
theorem zr_lconst {l : Launch} {d : zD} {F : zF} {k n : Nat} {ws : va_W} {lv : List (Option Value)} {pc : Nat} {st : List Value} {own : String} {cc : ByteArray} {nL fr lo : Nat} {v : Int64} {i : Fin 2} (pc' : Nat) (C : zOk d F own cc nL fr lo) (hd : decode cc pc = .ok (.lconst i, 1)) (hp : pc + 1 = pc') (hv : Int64.ofNat (i : Nat) = v) (K : V l d F k n ws lv pc' (.long v :: st)) : V l d F k n ws lv pc (st) := by
  subst hp
  obtain ⟨p, e, R, s, m, args, below, meth, c, Q, A⟩ := F
  intro H locs ls hP hD hS hl
  exact lv_lconst C.1 C.2.1 hd hv (K H locs ls hP hD hS hl)
theorem zr_ldc {l : Launch} {d : zD} {F : zF} {k n : Nat} {ws : va_W} {lv : List (Option Value)} {pc : Nat} {st : List Value} {own : String} {cc : ByteArray} {nL fr lo : Nat} {v : Int32} {i : Nat} (pc' : Nat) (C : zOk d F own cc nL fr lo) (hd : decode cc pc = .ok (.ldc i, 2)) (hp : pc + 2 = pc') (hq : Cond.constant own i v ∈ zW) (K : V l d F k n ws lv pc' (.int v :: st)) : V l d F k n ws lv pc (st) := by
  subst hp
  obtain ⟨p, e, R, s, m, args, below, meth, c, Q, A⟩ := F
  intro H locs ls hP hD hS hl
  exact lv_ldc C.1 C.2.1 C.2.2.2.1 (C.2.2.2.2.1 _ hq) hd (K H locs ls hP hD hS hl)
theorem zr_ldc2 {l : Launch} {d : zD} {F : zF} {k n : Nat} {ws : va_W} {lv : List (Option Value)} {pc : Nat} {st : List Value} {own : String} {cc : ByteArray} {nL fr lo : Nat} {v : Int64} {i : Nat} (pc' : Nat) (C : zOk d F own cc nL fr lo) (hd : decode cc pc = .ok (.ldc2_w i, 3)) (hp : pc + 3 = pc') (hq : Cond.constantLong own i v ∈ zW) (K : V l d F k n ws lv pc' (.long v :: st)) : V l d F k n ws lv pc (st) := by
  subst hp
  obtain ⟨p, e, R, s, m, args, below, meth, c, Q, A⟩ := F
  intro H locs ls hP hD hS hl
  exact lv_ldc2 C.1 C.2.1 C.2.2.2.1 (C.2.2.2.2.1 _ hq) hd (K H locs ls hP hD hS hl)
theorem zr_iload_n {l : Launch} {d : zD} {F : zF} {k n : Nat} {ws : va_W} {lv : List (Option Value)} {pc : Nat} {st : List Value} {own : String} {cc : ByteArray} {nL fr lo : Nat} {x : Int32} (i : Fin 4) (pc' : Nat) (C : zOk d F own cc nL fr lo) (hd : decode cc pc = .ok (.iload_n i, 1)) (hp : pc + 1 = pc') (hl0 : lv[(i : Nat)]? = some (some (.int x))) (K : V l d F k n ws lv pc' (.int x :: st)) : V l d F k n ws lv pc (st) := by
  subst hp
  obtain ⟨p, e, R, s, m, args, below, meth, c, Q, A⟩ := F
  intro H locs ls hP hD hS hl
  exact lv_iload_n C.1 C.2.1 hd rfl (zh_at hl hl0) (K H locs ls hP hD hS hl)
theorem zr_iload {l : Launch} {d : zD} {F : zF} {k n : Nat} {ws : va_W} {lv : List (Option Value)} {pc : Nat} {st : List Value} {own : String} {cc : ByteArray} {nL fr lo : Nat} {x : Int32} (i : Nat) (pc' : Nat) (C : zOk d F own cc nL fr lo) (hd : decode cc pc = .ok (.iload i, 2)) (hp : pc + 2 = pc') (hl0 : lv[i]? = some (some (.int x))) (K : V l d F k n ws lv pc' (.int x :: st)) : V l d F k n ws lv pc (st) := by
  subst hp
  obtain ⟨p, e, R, s, m, args, below, meth, c, Q, A⟩ := F
  intro H locs ls hP hD hS hl
  exact lv_iload C.1 C.2.1 hd (zh_at hl hl0) (K H locs ls hP hD hS hl)
theorem zr_lload_n {l : Launch} {d : zD} {F : zF} {k n : Nat} {ws : va_W} {lv : List (Option Value)} {pc : Nat} {st : List Value} {own : String} {cc : ByteArray} {nL fr lo : Nat} {x : Int64} (i : Fin 4) (pc' : Nat) (C : zOk d F own cc nL fr lo) (hd : decode cc pc = .ok (.lload_n i, 1)) (hp : pc + 1 = pc') (hl0 : lv[(i : Nat)]? = some (some (.long x))) (K : V l d F k n ws lv pc' (.long x :: st)) : V l d F k n ws lv pc (st) := by
  subst hp
  obtain ⟨p, e, R, s, m, args, below, meth, c, Q, A⟩ := F
  intro H locs ls hP hD hS hl
  exact lv_lload_n C.1 C.2.1 hd rfl (zh_at hl hl0) (K H locs ls hP hD hS hl)
theorem zr_aload_n {l : Launch} {d : zD} {F : zF} {k n : Nat} {ws : va_W} {lv : List (Option Value)} {pc : Nat} {st : List Value} {own : String} {cc : ByteArray} {nL fr lo : Nat} {x : Nat} (i : Fin 4) (pc' : Nat) (C : zOk d F own cc nL fr lo) (hd : decode cc pc = .ok (.aload_n i, 1)) (hp : pc + 1 = pc') (hl0 : lv[(i : Nat)]? = some (some (.ref x))) (K : V l d F k n ws lv pc' (.ref x :: st)) : V l d F k n ws lv pc (st) := by
  subst hp
  obtain ⟨p, e, R, s, m, args, below, meth, c, Q, A⟩ := F
  intro H locs ls hP hD hS hl
  exact lv_aload_n C.1 C.2.1 hd rfl (zh_at hl hl0) (K H locs ls hP hD hS hl)
theorem zr_aload {l : Launch} {d : zD} {F : zF} {k n : Nat} {ws : va_W} {lv : List (Option Value)} {pc : Nat} {st : List Value} {own : String} {cc : ByteArray} {nL fr lo : Nat} {x : Nat} (i : Nat) (pc' : Nat) (C : zOk d F own cc nL fr lo) (hd : decode cc pc = .ok (.aload i, 2)) (hp : pc + 2 = pc') (hl0 : lv[i]? = some (some (.ref x))) (K : V l d F k n ws lv pc' (.ref x :: st)) : V l d F k n ws lv pc (st) := by
  subst hp
  obtain ⟨p, e, R, s, m, args, below, meth, c, Q, A⟩ := F
  intro H locs ls hP hD hS hl
  exact lv_aload C.1 C.2.1 hd (zh_at hl hl0) (K H locs ls hP hD hS hl)
theorem zr_iadd {l : Launch} {d : zD} {F : zF} {k n : Nat} {ws : va_W} {lv : List (Option Value)} {pc : Nat} {st : List Value} {own : String} {cc : ByteArray} {nL fr lo : Nat} {x y : Int32} (pc' : Nat) (C : zOk d F own cc nL fr lo) (hd : decode cc pc = .ok (.iadd, 1)) (hp : pc + 1 = pc') (K : V l d F k n ws lv pc' (.int (x + y) :: st)) : V l d F k n ws lv pc (.int y :: .int x :: st) := by
  subst hp
  obtain ⟨p, e, R, s, m, args, below, meth, c, Q, A⟩ := F
  intro H locs ls hP hD hS hl
  exact lv_iadd C.1 C.2.1 hd (K H locs ls hP hD hS hl)
theorem zr_isub {l : Launch} {d : zD} {F : zF} {k n : Nat} {ws : va_W} {lv : List (Option Value)} {pc : Nat} {st : List Value} {own : String} {cc : ByteArray} {nL fr lo : Nat} {x y : Int32} (pc' : Nat) (C : zOk d F own cc nL fr lo) (hd : decode cc pc = .ok (.isub, 1)) (hp : pc + 1 = pc') (K : V l d F k n ws lv pc' (.int (x - y) :: st)) : V l d F k n ws lv pc (.int y :: .int x :: st) := by
  subst hp
  obtain ⟨p, e, R, s, m, args, below, meth, c, Q, A⟩ := F
  intro H locs ls hP hD hS hl
  exact lv_isub C.1 C.2.1 hd (K H locs ls hP hD hS hl)
theorem zr_imul {l : Launch} {d : zD} {F : zF} {k n : Nat} {ws : va_W} {lv : List (Option Value)} {pc : Nat} {st : List Value} {own : String} {cc : ByteArray} {nL fr lo : Nat} {x y : Int32} (pc' : Nat) (C : zOk d F own cc nL fr lo) (hd : decode cc pc = .ok (.imul, 1)) (hp : pc + 1 = pc') (K : V l d F k n ws lv pc' (.int (x * y) :: st)) : V l d F k n ws lv pc (.int y :: .int x :: st) := by
  subst hp
  obtain ⟨p, e, R, s, m, args, below, meth, c, Q, A⟩ := F
  intro H locs ls hP hD hS hl
  exact lv_imul C.1 C.2.1 hd (K H locs ls hP hD hS hl)
theorem zr_iand {l : Launch} {d : zD} {F : zF} {k n : Nat} {ws : va_W} {lv : List (Option Value)} {pc : Nat} {st : List Value} {own : String} {cc : ByteArray} {nL fr lo : Nat} {x y : Int32} (pc' : Nat) (C : zOk d F own cc nL fr lo) (hd : decode cc pc = .ok (.iand, 1)) (hp : pc + 1 = pc') (K : V l d F k n ws lv pc' (.int (x &&& y) :: st)) : V l d F k n ws lv pc (.int y :: .int x :: st) := by
  subst hp
  obtain ⟨p, e, R, s, m, args, below, meth, c, Q, A⟩ := F
  intro H locs ls hP hD hS hl
  exact lv_iand C.1 C.2.1 hd (K H locs ls hP hD hS hl)
theorem zr_ior {l : Launch} {d : zD} {F : zF} {k n : Nat} {ws : va_W} {lv : List (Option Value)} {pc : Nat} {st : List Value} {own : String} {cc : ByteArray} {nL fr lo : Nat} {x y : Int32} (pc' : Nat) (C : zOk d F own cc nL fr lo) (hd : decode cc pc = .ok (.ior, 1)) (hp : pc + 1 = pc') (K : V l d F k n ws lv pc' (.int (x ||| y) :: st)) : V l d F k n ws lv pc (.int y :: .int x :: st) := by
  subst hp
  obtain ⟨p, e, R, s, m, args, below, meth, c, Q, A⟩ := F
  intro H locs ls hP hD hS hl
  exact lv_ior C.1 C.2.1 hd (K H locs ls hP hD hS hl)
theorem zr_ixor {l : Launch} {d : zD} {F : zF} {k n : Nat} {ws : va_W} {lv : List (Option Value)} {pc : Nat} {st : List Value} {own : String} {cc : ByteArray} {nL fr lo : Nat} {x y : Int32} (pc' : Nat) (C : zOk d F own cc nL fr lo) (hd : decode cc pc = .ok (.ixor, 1)) (hp : pc + 1 = pc') (K : V l d F k n ws lv pc' (.int (x ^^^ y) :: st)) : V l d F k n ws lv pc (.int y :: .int x :: st) := by
  subst hp
  obtain ⟨p, e, R, s, m, args, below, meth, c, Q, A⟩ := F
  intro H locs ls hP hD hS hl
  exact lv_ixor C.1 C.2.1 hd (K H locs ls hP hD hS hl)
theorem zr_ishl {l : Launch} {d : zD} {F : zF} {k n : Nat} {ws : va_W} {lv : List (Option Value)} {pc : Nat} {st : List Value} {own : String} {cc : ByteArray} {nL fr lo : Nat} {x y : Int32} (pc' : Nat) (C : zOk d F own cc nL fr lo) (hd : decode cc pc = .ok (.ishl, 1)) (hp : pc + 1 = pc') (K : V l d F k n ws lv pc' (.int (zshl x y) :: st)) : V l d F k n ws lv pc (.int y :: .int x :: st) := by
  subst hp
  obtain ⟨p, e, R, s, m, args, below, meth, c, Q, A⟩ := F
  intro H locs ls hP hD hS hl
  exact lv_ishl C.1 C.2.1 hd (K H locs ls hP hD hS hl)
theorem zr_ishr {l : Launch} {d : zD} {F : zF} {k n : Nat} {ws : va_W} {lv : List (Option Value)} {pc : Nat} {st : List Value} {own : String} {cc : ByteArray} {nL fr lo : Nat} {x y : Int32} (pc' : Nat) (C : zOk d F own cc nL fr lo) (hd : decode cc pc = .ok (.ishr, 1)) (hp : pc + 1 = pc') (K : V l d F k n ws lv pc' (.int (zshr x y) :: st)) : V l d F k n ws lv pc (.int y :: .int x :: st) := by
  subst hp
  obtain ⟨p, e, R, s, m, args, below, meth, c, Q, A⟩ := F
  intro H locs ls hP hD hS hl
  exact lv_ishr C.1 C.2.1 hd (K H locs ls hP hD hS hl)
theorem zr_ladd {l : Launch} {d : zD} {F : zF} {k n : Nat} {ws : va_W} {lv : List (Option Value)} {pc : Nat} {st : List Value} {own : String} {cc : ByteArray} {nL fr lo : Nat} {x y : Int64} (pc' : Nat) (C : zOk d F own cc nL fr lo) (hd : decode cc pc = .ok (.ladd, 1)) (hp : pc + 1 = pc') (K : V l d F k n ws lv pc' (.long (x + y) :: st)) : V l d F k n ws lv pc (.long y :: .long x :: st) := by
  subst hp
  obtain ⟨p, e, R, s, m, args, below, meth, c, Q, A⟩ := F
  intro H locs ls hP hD hS hl
  exact lv_ladd C.1 C.2.1 hd (K H locs ls hP hD hS hl)
theorem zr_lor {l : Launch} {d : zD} {F : zF} {k n : Nat} {ws : va_W} {lv : List (Option Value)} {pc : Nat} {st : List Value} {own : String} {cc : ByteArray} {nL fr lo : Nat} {x y : Int64} (pc' : Nat) (C : zOk d F own cc nL fr lo) (hd : decode cc pc = .ok (.lor, 1)) (hp : pc + 1 = pc') (K : V l d F k n ws lv pc' (.long (x ||| y) :: st)) : V l d F k n ws lv pc (.long y :: .long x :: st) := by
  subst hp
  obtain ⟨p, e, R, s, m, args, below, meth, c, Q, A⟩ := F
  intro H locs ls hP hD hS hl
  exact lv_lor C.1 C.2.1 hd (K H locs ls hP hD hS hl)
theorem zr_land {l : Launch} {d : zD} {F : zF} {k n : Nat} {ws : va_W} {lv : List (Option Value)} {pc : Nat} {st : List Value} {own : String} {cc : ByteArray} {nL fr lo : Nat} {x y : Int64} (pc' : Nat) (C : zOk d F own cc nL fr lo) (hd : decode cc pc = .ok (.land, 1)) (hp : pc + 1 = pc') (K : V l d F k n ws lv pc' (.long (x &&& y) :: st)) : V l d F k n ws lv pc (.long y :: .long x :: st) := by
  subst hp
  obtain ⟨p, e, R, s, m, args, below, meth, c, Q, A⟩ := F
  intro H locs ls hP hD hS hl
  exact lv_land C.1 C.2.1 hd (K H locs ls hP hD hS hl)
theorem zr_ineg {l : Launch} {d : zD} {F : zF} {k n : Nat} {ws : va_W} {lv : List (Option Value)} {pc : Nat} {st : List Value} {own : String} {cc : ByteArray} {nL fr lo : Nat} {x : Int32} (pc' : Nat) (C : zOk d F own cc nL fr lo) (hd : decode cc pc = .ok (.ineg, 1)) (hp : pc + 1 = pc') (K : V l d F k n ws lv pc' (.int (-x) :: st)) : V l d F k n ws lv pc (.int x :: st) := by
  subst hp
  obtain ⟨p, e, R, s, m, args, below, meth, c, Q, A⟩ := F
  intro H locs ls hP hD hS hl
  exact lv_ineg C.1 C.2.1 hd (K H locs ls hP hD hS hl)
theorem zr_i2l {l : Launch} {d : zD} {F : zF} {k n : Nat} {ws : va_W} {lv : List (Option Value)} {pc : Nat} {st : List Value} {own : String} {cc : ByteArray} {nL fr lo : Nat} {x : Int32} (pc' : Nat) (C : zOk d F own cc nL fr lo) (hd : decode cc pc = .ok (.i2l, 1)) (hp : pc + 1 = pc') (K : V l d F k n ws lv pc' (.long x.toInt64 :: st)) : V l d F k n ws lv pc (.int x :: st) := by
  subst hp
  obtain ⟨p, e, R, s, m, args, below, meth, c, Q, A⟩ := F
  intro H locs ls hP hD hS hl
  exact lv_i2l C.1 C.2.1 hd rfl (K H locs ls hP hD hS hl)
theorem zr_l2i {l : Launch} {d : zD} {F : zF} {k n : Nat} {ws : va_W} {lv : List (Option Value)} {pc : Nat} {st : List Value} {own : String} {cc : ByteArray} {nL fr lo : Nat} {x : Int64} (pc' : Nat) (C : zOk d F own cc nL fr lo) (hd : decode cc pc = .ok (.l2i, 1)) (hp : pc + 1 = pc') (K : V l d F k n ws lv pc' (.int x.toInt32 :: st)) : V l d F k n ws lv pc (.long x :: st) := by
  subst hp
  obtain ⟨p, e, R, s, m, args, below, meth, c, Q, A⟩ := F
  intro H locs ls hP hD hS hl
  exact lv_l2i C.1 C.2.1 hd rfl (K H locs ls hP hD hS hl)
theorem zr_i2b {l : Launch} {d : zD} {F : zF} {k n : Nat} {ws : va_W} {lv : List (Option Value)} {pc : Nat} {st : List Value} {own : String} {cc : ByteArray} {nL fr lo : Nat} {x : Int32} (pc' : Nat) (C : zOk d F own cc nL fr lo) (hd : decode cc pc = .ok (.i2b, 1)) (hp : pc + 1 = pc') (K : V l d F k n ws lv pc' (.int x.toInt8.toInt32 :: st)) : V l d F k n ws lv pc (.int x :: st) := by
  subst hp
  obtain ⟨p, e, R, s, m, args, below, meth, c, Q, A⟩ := F
  intro H locs ls hP hD hS hl
  exact lv_i2b C.1 C.2.1 hd rfl (K H locs ls hP hD hS hl)
theorem zr_i2s {l : Launch} {d : zD} {F : zF} {k n : Nat} {ws : va_W} {lv : List (Option Value)} {pc : Nat} {st : List Value} {own : String} {cc : ByteArray} {nL fr lo : Nat} {x : Int32} (pc' : Nat) (C : zOk d F own cc nL fr lo) (hd : decode cc pc = .ok (.i2s, 1)) (hp : pc + 1 = pc') (K : V l d F k n ws lv pc' (.int x.toInt16.toInt32 :: st)) : V l d F k n ws lv pc (.int x :: st) := by
  subst hp
  obtain ⟨p, e, R, s, m, args, below, meth, c, Q, A⟩ := F
  intro H locs ls hP hD hS hl
  exact lv_i2s C.1 C.2.1 hd rfl (K H locs ls hP hD hS hl)
def zlshl (x : Int64) (y : Int32) : Int64 := x <<< (y.toInt64 &&& 63)
def zlshr (x : Int64) (y : Int32) : Int64 := x >>> (y.toInt64 &&& 63)
def zlushr (x : Int64) (y : Int32) : Int64 := (x.toUInt64 >>> (y.toInt64.toUInt64 &&& Int64.toUInt64 63)).toInt64
theorem zr_lshl {l : Launch} {d : zD} {F : zF} {k n : Nat} {ws : va_W} {lv : List (Option Value)} {pc : Nat} {st : List Value} {own : String} {cc : ByteArray} {nL fr lo : Nat} {x : Int64} {y : Int32} (pc' : Nat) (C : zOk d F own cc nL fr lo) (hd : decode cc pc = .ok (.lshl, 1)) (hp : pc + 1 = pc') (K : V l d F k n ws lv pc' (.long (zlshl x y) :: st)) : V l d F k n ws lv pc (.int y :: .long x :: st) := by
  subst hp
  obtain ⟨p, e, R, s, m, args, below, meth, c, Q, A⟩ := F
  intro H locs ls hP hD hS hl
  exact lv_lshl C.1 C.2.1 hd rfl (K H locs ls hP hD hS hl)
theorem zr_lshr {l : Launch} {d : zD} {F : zF} {k n : Nat} {ws : va_W} {lv : List (Option Value)} {pc : Nat} {st : List Value} {own : String} {cc : ByteArray} {nL fr lo : Nat} {x : Int64} {y : Int32} (pc' : Nat) (C : zOk d F own cc nL fr lo) (hd : decode cc pc = .ok (.lshr, 1)) (hp : pc + 1 = pc') (K : V l d F k n ws lv pc' (.long (zlshr x y) :: st)) : V l d F k n ws lv pc (.int y :: .long x :: st) := by
  subst hp
  obtain ⟨p, e, R, s, m, args, below, meth, c, Q, A⟩ := F
  intro H locs ls hP hD hS hl
  exact lv_lshr C.1 C.2.1 hd rfl (K H locs ls hP hD hS hl)
theorem zr_lushr {l : Launch} {d : zD} {F : zF} {k n : Nat} {ws : va_W} {lv : List (Option Value)} {pc : Nat} {st : List Value} {own : String} {cc : ByteArray} {nL fr lo : Nat} {x : Int64} {y : Int32} (pc' : Nat) (C : zOk d F own cc nL fr lo) (hd : decode cc pc = .ok (.lushr, 1)) (hp : pc + 1 = pc') (K : V l d F k n ws lv pc' (.long (zlushr x y) :: st)) : V l d F k n ws lv pc (.int y :: .long x :: st) := by
  subst hp
  obtain ⟨p, e, R, s, m, args, below, meth, c, Q, A⟩ := F
  intro H locs ls hP hD hS hl
  exact lv_lushr C.1 C.2.1 hd rfl (K H locs ls hP hD hS hl)
theorem zr_dup {l : Launch} {d : zD} {F : zF} {k n : Nat} {ws : va_W} {lv : List (Option Value)} {pc : Nat} {st : List Value} {own : String} {cc : ByteArray} {nL fr lo : Nat} {v : Value} (pc' : Nat) (C : zOk d F own cc nL fr lo) (hd : decode cc pc = .ok (.dup, 1)) (hp : pc + 1 = pc') (hv : v.category = 1) (K : V l d F k n ws lv pc' (v :: v :: st)) : V l d F k n ws lv pc (v :: st) := by
  subst hp
  obtain ⟨p, e, R, s, m, args, below, meth, c, Q, A⟩ := F
  intro H locs ls hP hD hS hl
  exact lv_dup C.1 C.2.1 hd hv (K H locs ls hP hD hS hl)
theorem zr_pop {l : Launch} {d : zD} {F : zF} {k n : Nat} {ws : va_W} {lv : List (Option Value)} {pc : Nat} {st : List Value} {own : String} {cc : ByteArray} {nL fr lo : Nat} {v : Value} (pc' : Nat) (C : zOk d F own cc nL fr lo) (hd : decode cc pc = .ok (.pop, 1)) (hp : pc + 1 = pc') (hv : v.category = 1) (K : V l d F k n ws lv pc' (st)) : V l d F k n ws lv pc (v :: st) := by
  subst hp
  obtain ⟨p, e, R, s, m, args, below, meth, c, Q, A⟩ := F
  intro H locs ls hP hD hS hl
  exact lv_pop C.1 C.2.1 hd hv (K H locs ls hP hD hS hl)
theorem zr_dup2 {l : Launch} {d : zD} {F : zF} {k n : Nat} {ws : va_W} {lv : List (Option Value)} {pc : Nat} {st : List Value} {own : String} {cc : ByteArray} {nL fr lo : Nat} {v w : Value} (pc' : Nat) (C : zOk d F own cc nL fr lo) (hd : decode cc pc = .ok (.dup2, 1)) (hp : pc + 1 = pc') (hv : v.category = 1) (hw : w.category = 1) (K : V l d F k n ws lv pc' (w :: v :: w :: v :: st)) : V l d F k n ws lv pc (w :: v :: st) := by
  subst hp
  obtain ⟨p, e, R, s, m, args, below, meth, c, Q, A⟩ := F
  intro H locs ls hP hD hS hl
  exact lv_dup2_11 C.1 C.2.1 hd hw hv (K H locs ls hP hD hS hl)
theorem zr_idiv {l : Launch} {d : zD} {F : zF} {k n : Nat} {ws : va_W} {lv : List (Option Value)} {pc : Nat} {st : List Value} {own : String} {cc : ByteArray} {nL fr lo : Nat} {x y : Int32} (pc' : Nat) (C : zOk d F own cc nL fr lo) (hd : decode cc pc = .ok (.idiv, 1)) (hp : pc + 1 = pc') (hne : ¬ y = 0) (K : V l d F k n ws lv pc' (.int (x / y) :: st)) : V l d F k n ws lv pc (.int y :: .int x :: st) := by
  subst hp
  obtain ⟨p, e, R, s, m, args, below, meth, c, Q, A⟩ := F
  intro H locs ls hP hD hS hl
  exact lv_idiv C.1 C.2.1 hd hne (K H locs ls hP hD hS hl)
theorem zr_irem {l : Launch} {d : zD} {F : zF} {k n : Nat} {ws : va_W} {lv : List (Option Value)} {pc : Nat} {st : List Value} {own : String} {cc : ByteArray} {nL fr lo : Nat} {x y : Int32} (pc' : Nat) (C : zOk d F own cc nL fr lo) (hd : decode cc pc = .ok (.irem, 1)) (hp : pc + 1 = pc') (hne : ¬ y = 0) (K : V l d F k n ws lv pc' (.int (zrem x y) :: st)) : V l d F k n ws lv pc (.int y :: .int x :: st) := by
  subst hp
  obtain ⟨p, e, R, s, m, args, below, meth, c, Q, A⟩ := F
  intro H locs ls hP hD hS hl
  exact lv_irem C.1 C.2.1 hd hne (K H locs ls hP hD hS hl)
theorem zr_istore_n {l : Launch} {d : zD} {F : zF} {k n : Nat} {ws : va_W} {lv : List (Option Value)} {pc : Nat} {st : List Value} {own : String} {cc : ByteArray} {nL fr lo : Nat} {x : Int32} (i : Fin 4) (lv' : List (Option Value)) (pc' : Nat) (C : zOk d F own cc nL fr lo) (hd : decode cc pc = .ok (.istore_n i, 1)) (hp : pc + 1 = pc') (hn : (i : Nat) < nL) (h1 : z1 lv i = true) (he : lv.set (i : Nat) (some (.int x)) = lv') (K : V l d F k n ws lv' pc' st) : V l d F k n ws lv pc (.int x :: st) := by
  subst hp
  subst he
  obtain ⟨p, e, R, s, m, args, below, meth, c, Q, A⟩ := F
  intro H locs ls hP hD hS hl
  exact lv_istore_n C.1 C.2.1 hd rfl hl (by rw [C.2.2.1]; exact hn) rfl (fun ls' hl' => K H locs ls' hP hD hS (zh_set1 hl' h1))
theorem zr_istore {l : Launch} {d : zD} {F : zF} {k n : Nat} {ws : va_W} {lv : List (Option Value)} {pc : Nat} {st : List Value} {own : String} {cc : ByteArray} {nL fr lo : Nat} {x : Int32} (i : Nat) (lv' : List (Option Value)) (pc' : Nat) (C : zOk d F own cc nL fr lo) (hd : decode cc pc = .ok (.istore i, 2)) (hp : pc + 2 = pc') (hn : i < nL) (h1 : z1 lv i = true) (he : lv.set i (some (.int x)) = lv') (K : V l d F k n ws lv' pc' st) : V l d F k n ws lv pc (.int x :: st) := by
  subst hp
  subst he
  obtain ⟨p, e, R, s, m, args, below, meth, c, Q, A⟩ := F
  intro H locs ls hP hD hS hl
  exact lv_istore C.1 C.2.1 hd hl (by rw [C.2.2.1]; exact hn) rfl (fun ls' hl' => K H locs ls' hP hD hS (zh_set1 hl' h1))
theorem zr_astore_n {l : Launch} {d : zD} {F : zF} {k n : Nat} {ws : va_W} {lv : List (Option Value)} {pc : Nat} {st : List Value} {own : String} {cc : ByteArray} {nL fr lo : Nat} {x : Nat} (i : Fin 4) (lv' : List (Option Value)) (pc' : Nat) (C : zOk d F own cc nL fr lo) (hd : decode cc pc = .ok (.astore_n i, 1)) (hp : pc + 1 = pc') (hn : (i : Nat) < nL) (h1 : z1 lv i = true) (he : lv.set (i : Nat) (some (.ref x)) = lv') (K : V l d F k n ws lv' pc' st) : V l d F k n ws lv pc (.ref x :: st) := by
  subst hp
  subst he
  obtain ⟨p, e, R, s, m, args, below, meth, c, Q, A⟩ := F
  intro H locs ls hP hD hS hl
  exact lv_astore_n C.1 C.2.1 hd rfl hl (by rw [C.2.2.1]; exact hn) rfl (fun ls' hl' => K H locs ls' hP hD hS (zh_set1 hl' h1))
theorem zr_astore {l : Launch} {d : zD} {F : zF} {k n : Nat} {ws : va_W} {lv : List (Option Value)} {pc : Nat} {st : List Value} {own : String} {cc : ByteArray} {nL fr lo : Nat} {x : Nat} (i : Nat) (lv' : List (Option Value)) (pc' : Nat) (C : zOk d F own cc nL fr lo) (hd : decode cc pc = .ok (.astore i, 2)) (hp : pc + 2 = pc') (hn : i < nL) (h1 : z1 lv i = true) (he : lv.set i (some (.ref x)) = lv') (K : V l d F k n ws lv' pc' st) : V l d F k n ws lv pc (.ref x :: st) := by
  subst hp
  subst he
  obtain ⟨p, e, R, s, m, args, below, meth, c, Q, A⟩ := F
  intro H locs ls hP hD hS hl
  exact lv_astore C.1 C.2.1 hd hl (by rw [C.2.2.1]; exact hn) rfl (fun ls' hl' => K H locs ls' hP hD hS (zh_set1 hl' h1))
theorem zr_lstore_n {l : Launch} {d : zD} {F : zF} {k n : Nat} {ws : va_W} {lv : List (Option Value)} {pc : Nat} {st : List Value} {own : String} {cc : ByteArray} {nL fr lo : Nat} {x : Int64} (i : Fin 4) (lv' : List (Option Value)) (pc' : Nat) (C : zOk d F own cc nL fr lo) (hd : decode cc pc = .ok (.lstore_n i, 1)) (hp : pc + 1 = pc') (hn : (i : Nat) + 1 < nL) (h1 : z1 lv i = true) (he : (lv.set (i : Nat) (some (.long x))).set ((i : Nat) + 1) none = lv') (K : V l d F k n ws lv' pc' st) : V l d F k n ws lv pc (.long x :: st) := by
  subst hp
  subst he
  obtain ⟨p, e, R, s, m, args, below, meth, c, Q, A⟩ := F
  intro H locs ls hP hD hS hl
  exact lv_lstore_n C.1 C.2.1 hd rfl hl (by rw [C.2.2.1]; exact hn) rfl (fun ls' hl' => K H locs ls' hP hD hS (zh_set2 hl' h1))
theorem zr_iinc {l : Launch} {d : zD} {F : zF} {k n : Nat} {ws : va_W} {lv : List (Option Value)} {pc : Nat} {st : List Value} {own : String} {cc : ByteArray} {nL fr lo : Nat} {x v : Int32} {j : Int} (i : Nat) (lv' : List (Option Value)) (pc' : Nat) (C : zOk d F own cc nL fr lo) (hd : decode cc pc = .ok (.iinc i j, 3)) (hp : pc + 3 = pc') (hl0 : lv[i]? = some (some (.int x))) (hv : x + Int32.ofInt j = v) (hn : i < nL) (h1 : z1 lv i = true) (he : lv.set i (some (.int v)) = lv') (K : V l d F k n ws lv' pc' st) : V l d F k n ws lv pc st := by
  subst hp
  subst he
  obtain ⟨p, e, R, s, m, args, below, meth, c, Q, A⟩ := F
  intro H locs ls hP hD hS hl
  obtain ⟨q, hq⟩ := List.getElem?_of_mem ((zp_mem lv 0).mpr ⟨i, (Nat.zero_add i).symm, hl0⟩)
  exact lv_iinc C.1 C.2.1 hd hl hq hv (by rw [C.2.2.1]; exact hn) rfl (fun ls' hl' => K H locs ls' hP hD hS (zh_set1 hl' h1))
theorem zr_goto {l : Launch} {d : zD} {F : zF} {k n : Nat} {ws : va_W} {lv : List (Option Value)} {pc : Nat} {st : List Value} {own : String} {cc : ByteArray} {nL fr lo : Nat} {off : Int} (tgt : Nat) (C : zOk d F own cc nL fr lo) (hd : decode cc pc = .ok (.goto off, 3)) (ht : (pc : Int) + off = (tgt : Int)) (K : V l d F k n ws lv tgt st) : V l d F k n ws lv pc st := by
  obtain ⟨p, e, R, s, m, args, below, meth, c, Q, A⟩ := F
  intro H locs ls hP hD hS hl
  exact lv_goto C.1 C.2.1 hd ht (K H locs ls hP hD hS hl)
theorem zr_icmp_eq {l : Launch} {d : zD} {F : zF} {k n : Nat} {ws : va_W} {lv : List (Option Value)} {pc : Nat} {st : List Value} {own : String} {cc : ByteArray} {nL fr lo : Nat} {x y : Int32} {off : Int} {β : Type} {X Y : Option β} {out : β} (tgt pc' : Nat) (C : zOk d F own cc nL fr lo) (hd : decode cc pc = .ok (.if_icmp .eq off, 3)) (ht : (pc : Int) + off = (tgt : Int)) (hp : pc + 3 = pc') (hf : (if x = y then X else Y) = some out) (K1 : X = some out → V l d F k n ws lv tgt st) (K2 : Y = some out → V l d F k n ws lv pc' st) : V l d F k n ws lv pc (.int y :: .int x :: st) := by
  subst hp
  obtain ⟨p, e, R, s, m, args, below, meth, c, Q, A⟩ := F
  intro H locs ls hP hD hS hl
  refine lv_icmp_eq C.1 C.2.1 hd ht (fun h => ?_) (fun h => ?_)
  · rw [if_pos h] at hf
    exact K1 hf H locs ls hP hD hS hl
  · rw [if_neg h] at hf
    exact K2 hf H locs ls hP hD hS hl
theorem zr_if_eq {l : Launch} {d : zD} {F : zF} {k n : Nat} {ws : va_W} {lv : List (Option Value)} {pc : Nat} {st : List Value} {own : String} {cc : ByteArray} {nL fr lo : Nat} {x : Int32} {off : Int} {β : Type} {X Y : Option β} {out : β} (tgt pc' : Nat) (C : zOk d F own cc nL fr lo) (hd : decode cc pc = .ok (.ifCond .eq off, 3)) (ht : (pc : Int) + off = (tgt : Int)) (hp : pc + 3 = pc') (hf : (if x = 0 then X else Y) = some out) (K1 : X = some out → V l d F k n ws lv tgt st) (K2 : Y = some out → V l d F k n ws lv pc' st) : V l d F k n ws lv pc (.int x :: st) := by
  subst hp
  obtain ⟨p, e, R, s, m, args, below, meth, c, Q, A⟩ := F
  intro H locs ls hP hD hS hl
  refine lv_if_eq C.1 C.2.1 hd ht (fun h => ?_) (fun h => ?_)
  · rw [if_pos h] at hf
    exact K1 hf H locs ls hP hD hS hl
  · rw [if_neg h] at hf
    exact K2 hf H locs ls hP hD hS hl
theorem zr_icmp_ne {l : Launch} {d : zD} {F : zF} {k n : Nat} {ws : va_W} {lv : List (Option Value)} {pc : Nat} {st : List Value} {own : String} {cc : ByteArray} {nL fr lo : Nat} {x y : Int32} {off : Int} {β : Type} {X Y : Option β} {out : β} (tgt pc' : Nat) (C : zOk d F own cc nL fr lo) (hd : decode cc pc = .ok (.if_icmp .ne off, 3)) (ht : (pc : Int) + off = (tgt : Int)) (hp : pc + 3 = pc') (hf : (if x = y then X else Y) = some out) (K1 : Y = some out → V l d F k n ws lv tgt st) (K2 : X = some out → V l d F k n ws lv pc' st) : V l d F k n ws lv pc (.int y :: .int x :: st) := by
  subst hp
  obtain ⟨p, e, R, s, m, args, below, meth, c, Q, A⟩ := F
  intro H locs ls hP hD hS hl
  refine lv_icmp_ne C.1 C.2.1 hd ht (fun h => ?_) (fun h => ?_)
  · rw [if_neg h] at hf
    exact K1 hf H locs ls hP hD hS hl
  · rw [if_pos h] at hf
    exact K2 hf H locs ls hP hD hS hl
theorem zr_if_ne {l : Launch} {d : zD} {F : zF} {k n : Nat} {ws : va_W} {lv : List (Option Value)} {pc : Nat} {st : List Value} {own : String} {cc : ByteArray} {nL fr lo : Nat} {x : Int32} {off : Int} {β : Type} {X Y : Option β} {out : β} (tgt pc' : Nat) (C : zOk d F own cc nL fr lo) (hd : decode cc pc = .ok (.ifCond .ne off, 3)) (ht : (pc : Int) + off = (tgt : Int)) (hp : pc + 3 = pc') (hf : (if x = 0 then X else Y) = some out) (K1 : Y = some out → V l d F k n ws lv tgt st) (K2 : X = some out → V l d F k n ws lv pc' st) : V l d F k n ws lv pc (.int x :: st) := by
  subst hp
  obtain ⟨p, e, R, s, m, args, below, meth, c, Q, A⟩ := F
  intro H locs ls hP hD hS hl
  refine lv_if_ne C.1 C.2.1 hd ht (fun h => ?_) (fun h => ?_)
  · rw [if_neg h] at hf
    exact K1 hf H locs ls hP hD hS hl
  · rw [if_pos h] at hf
    exact K2 hf H locs ls hP hD hS hl
theorem zr_icmp_lt {l : Launch} {d : zD} {F : zF} {k n : Nat} {ws : va_W} {lv : List (Option Value)} {pc : Nat} {st : List Value} {own : String} {cc : ByteArray} {nL fr lo : Nat} {x y : Int32} {off : Int} {β : Type} {X Y : Option β} {out : β} (tgt pc' : Nat) (C : zOk d F own cc nL fr lo) (hd : decode cc pc = .ok (.if_icmp .lt off, 3)) (ht : (pc : Int) + off = (tgt : Int)) (hp : pc + 3 = pc') (hf : (if x < y then X else Y) = some out) (K1 : X = some out → V l d F k n ws lv tgt st) (K2 : Y = some out → V l d F k n ws lv pc' st) : V l d F k n ws lv pc (.int y :: .int x :: st) := by
  subst hp
  obtain ⟨p, e, R, s, m, args, below, meth, c, Q, A⟩ := F
  intro H locs ls hP hD hS hl
  refine lv_icmp_lt C.1 C.2.1 hd ht (fun h => ?_) (fun h => ?_)
  · rw [if_pos h] at hf
    exact K1 hf H locs ls hP hD hS hl
  · rw [if_neg h] at hf
    exact K2 hf H locs ls hP hD hS hl
theorem zr_if_lt {l : Launch} {d : zD} {F : zF} {k n : Nat} {ws : va_W} {lv : List (Option Value)} {pc : Nat} {st : List Value} {own : String} {cc : ByteArray} {nL fr lo : Nat} {x : Int32} {off : Int} {β : Type} {X Y : Option β} {out : β} (tgt pc' : Nat) (C : zOk d F own cc nL fr lo) (hd : decode cc pc = .ok (.ifCond .lt off, 3)) (ht : (pc : Int) + off = (tgt : Int)) (hp : pc + 3 = pc') (hf : (if x < 0 then X else Y) = some out) (K1 : X = some out → V l d F k n ws lv tgt st) (K2 : Y = some out → V l d F k n ws lv pc' st) : V l d F k n ws lv pc (.int x :: st) := by
  subst hp
  obtain ⟨p, e, R, s, m, args, below, meth, c, Q, A⟩ := F
  intro H locs ls hP hD hS hl
  refine lv_if_lt C.1 C.2.1 hd ht (fun h => ?_) (fun h => ?_)
  · rw [if_pos h] at hf
    exact K1 hf H locs ls hP hD hS hl
  · rw [if_neg h] at hf
    exact K2 hf H locs ls hP hD hS hl
theorem zr_icmp_ge {l : Launch} {d : zD} {F : zF} {k n : Nat} {ws : va_W} {lv : List (Option Value)} {pc : Nat} {st : List Value} {own : String} {cc : ByteArray} {nL fr lo : Nat} {x y : Int32} {off : Int} {β : Type} {X Y : Option β} {out : β} (tgt pc' : Nat) (C : zOk d F own cc nL fr lo) (hd : decode cc pc = .ok (.if_icmp .ge off, 3)) (ht : (pc : Int) + off = (tgt : Int)) (hp : pc + 3 = pc') (hf : (if y ≤ x then X else Y) = some out) (K1 : X = some out → V l d F k n ws lv tgt st) (K2 : Y = some out → V l d F k n ws lv pc' st) : V l d F k n ws lv pc (.int y :: .int x :: st) := by
  subst hp
  obtain ⟨p, e, R, s, m, args, below, meth, c, Q, A⟩ := F
  intro H locs ls hP hD hS hl
  refine lv_icmp_ge C.1 C.2.1 hd ht (fun h => ?_) (fun h => ?_)
  · rw [if_pos h] at hf
    exact K1 hf H locs ls hP hD hS hl
  · rw [if_neg h] at hf
    exact K2 hf H locs ls hP hD hS hl
theorem zr_if_ge {l : Launch} {d : zD} {F : zF} {k n : Nat} {ws : va_W} {lv : List (Option Value)} {pc : Nat} {st : List Value} {own : String} {cc : ByteArray} {nL fr lo : Nat} {x : Int32} {off : Int} {β : Type} {X Y : Option β} {out : β} (tgt pc' : Nat) (C : zOk d F own cc nL fr lo) (hd : decode cc pc = .ok (.ifCond .ge off, 3)) (ht : (pc : Int) + off = (tgt : Int)) (hp : pc + 3 = pc') (hf : (if 0 ≤ x then X else Y) = some out) (K1 : X = some out → V l d F k n ws lv tgt st) (K2 : Y = some out → V l d F k n ws lv pc' st) : V l d F k n ws lv pc (.int x :: st) := by
  subst hp
  obtain ⟨p, e, R, s, m, args, below, meth, c, Q, A⟩ := F
  intro H locs ls hP hD hS hl
  refine lv_if_ge C.1 C.2.1 hd ht (fun h => ?_) (fun h => ?_)
  · rw [if_pos h] at hf
    exact K1 hf H locs ls hP hD hS hl
  · rw [if_neg h] at hf
    exact K2 hf H locs ls hP hD hS hl
theorem zr_icmp_gt {l : Launch} {d : zD} {F : zF} {k n : Nat} {ws : va_W} {lv : List (Option Value)} {pc : Nat} {st : List Value} {own : String} {cc : ByteArray} {nL fr lo : Nat} {x y : Int32} {off : Int} {β : Type} {X Y : Option β} {out : β} (tgt pc' : Nat) (C : zOk d F own cc nL fr lo) (hd : decode cc pc = .ok (.if_icmp .gt off, 3)) (ht : (pc : Int) + off = (tgt : Int)) (hp : pc + 3 = pc') (hf : (if y < x then X else Y) = some out) (K1 : X = some out → V l d F k n ws lv tgt st) (K2 : Y = some out → V l d F k n ws lv pc' st) : V l d F k n ws lv pc (.int y :: .int x :: st) := by
  subst hp
  obtain ⟨p, e, R, s, m, args, below, meth, c, Q, A⟩ := F
  intro H locs ls hP hD hS hl
  refine lv_icmp_gt C.1 C.2.1 hd ht (fun h => ?_) (fun h => ?_)
  · rw [if_pos h] at hf
    exact K1 hf H locs ls hP hD hS hl
  · rw [if_neg h] at hf
    exact K2 hf H locs ls hP hD hS hl
theorem zr_if_gt {l : Launch} {d : zD} {F : zF} {k n : Nat} {ws : va_W} {lv : List (Option Value)} {pc : Nat} {st : List Value} {own : String} {cc : ByteArray} {nL fr lo : Nat} {x : Int32} {off : Int} {β : Type} {X Y : Option β} {out : β} (tgt pc' : Nat) (C : zOk d F own cc nL fr lo) (hd : decode cc pc = .ok (.ifCond .gt off, 3)) (ht : (pc : Int) + off = (tgt : Int)) (hp : pc + 3 = pc') (hf : (if 0 < x then X else Y) = some out) (K1 : X = some out → V l d F k n ws lv tgt st) (K2 : Y = some out → V l d F k n ws lv pc' st) : V l d F k n ws lv pc (.int x :: st) := by
  subst hp
  obtain ⟨p, e, R, s, m, args, below, meth, c, Q, A⟩ := F
  intro H locs ls hP hD hS hl
  refine lv_if_gt C.1 C.2.1 hd ht (fun h => ?_) (fun h => ?_)
  · rw [if_pos h] at hf
    exact K1 hf H locs ls hP hD hS hl
  · rw [if_neg h] at hf
    exact K2 hf H locs ls hP hD hS hl
theorem zr_icmp_le {l : Launch} {d : zD} {F : zF} {k n : Nat} {ws : va_W} {lv : List (Option Value)} {pc : Nat} {st : List Value} {own : String} {cc : ByteArray} {nL fr lo : Nat} {x y : Int32} {off : Int} {β : Type} {X Y : Option β} {out : β} (tgt pc' : Nat) (C : zOk d F own cc nL fr lo) (hd : decode cc pc = .ok (.if_icmp .le off, 3)) (ht : (pc : Int) + off = (tgt : Int)) (hp : pc + 3 = pc') (hf : (if x ≤ y then X else Y) = some out) (K1 : X = some out → V l d F k n ws lv tgt st) (K2 : Y = some out → V l d F k n ws lv pc' st) : V l d F k n ws lv pc (.int y :: .int x :: st) := by
  subst hp
  obtain ⟨p, e, R, s, m, args, below, meth, c, Q, A⟩ := F
  intro H locs ls hP hD hS hl
  refine lv_icmp_le C.1 C.2.1 hd ht (fun h => ?_) (fun h => ?_)
  · rw [if_pos h] at hf
    exact K1 hf H locs ls hP hD hS hl
  · rw [if_neg h] at hf
    exact K2 hf H locs ls hP hD hS hl
theorem zr_if_le {l : Launch} {d : zD} {F : zF} {k n : Nat} {ws : va_W} {lv : List (Option Value)} {pc : Nat} {st : List Value} {own : String} {cc : ByteArray} {nL fr lo : Nat} {x : Int32} {off : Int} {β : Type} {X Y : Option β} {out : β} (tgt pc' : Nat) (C : zOk d F own cc nL fr lo) (hd : decode cc pc = .ok (.ifCond .le off, 3)) (ht : (pc : Int) + off = (tgt : Int)) (hp : pc + 3 = pc') (hf : (if x ≤ 0 then X else Y) = some out) (K1 : X = some out → V l d F k n ws lv tgt st) (K2 : Y = some out → V l d F k n ws lv pc' st) : V l d F k n ws lv pc (.int x :: st) := by
  subst hp
  obtain ⟨p, e, R, s, m, args, below, meth, c, Q, A⟩ := F
  intro H locs ls hP hD hS hl
  refine lv_if_le C.1 C.2.1 hd ht (fun h => ?_) (fun h => ?_)
  · rw [if_pos h] at hf
    exact K1 hf H locs ls hP hD hS hl
  · rw [if_neg h] at hf
    exact K2 hf H locs ls hP hD hS hl
theorem zr_name {l : Launch} {d : zD} {F : zF} {k n : Nat} {ws : va_W} {lv : List (Option Value)} {pc : Nat} {st : List Value} {x : Int32} {β : Type} {f : Int32 → Option β} {out : β} (hf : zlt x f = some out) (K : ∀ y : Int32, f y = some out → V l d F k n ws lv pc (.int y :: st)) : V l d F k n ws lv pc (.int x :: st) := K x hf
theorem zr_namel {l : Launch} {d : zD} {F : zF} {k n : Nat} {ws : va_W} {lv : List (Option Value)} {pc : Nat} {st : List Value} {x : Int64} {β : Type} {f : Int64 → Option β} {out : β} (hf : zlt x f = some out) (K : ∀ y : Int64, f y = some out → V l d F k n ws lv pc (.long y :: st)) : V l d F k n ws lv pc (.long x :: st) := K x hf
theorem zr_less {l : Launch} {d : zD} {F : zF} {k n : Nat} {ws : va_W} {lv lv' : List (Option Value)} {pc : Nat} {st : List Value} (hz : zle lv' lv) (K : V l d F k n ws lv' pc st) : V l d F k n ws lv pc st := by
  obtain ⟨p, e, R, s, m, args, below, meth, c, Q, A⟩ := F
  intro H locs ls hP hD hS hl
  exact K H locs ls hP hD hS (zh_le hl hz)
theorem zr_iret {l : Launch} {d : zD} {F : zF} {ws : va_W} {lv : List (Option Value)} {pc : Nat} {own : String} {cc : ByteArray} {nL fr lo : Nat} {v : Int32} (C : zOk d F own cc nL fr lo) (hd : decode cc pc = .ok (.ireturn, 1)) (T : zRt d F (some .int) (some (.int v)) ws) : V l d F 0 0 ws lv pc [.int v] := by
  obtain ⟨p, e, R, s, m, args, below, meth, c, Q, A⟩ := F
  intro H locs ls hP hD hS hl
  obtain ⟨rfl, hr, hlk⟩ := T
  exact W.iret C.1 C.2.1 hr (fun t ht hW => ⟨⟨rfl, by rw [ht]; exact hP, va_K.moved hW.alike C.2.2.2.2.2.2.1, hD⟩, hS.F ht⟩) hS.2.2 hd hlk
theorem zr_zret {l : Launch} {d : zD} {F : zF} {ws : va_W} {lv : List (Option Value)} {pc : Nat} {own : String} {cc : ByteArray} {nL fr lo : Nat} {v : Int32} {ty : FieldType} (C : zOk d F own cc nL fr lo) (hd : decode cc pc = .ok (.ireturn, 1)) (hn : narrow ty (.int v) = .int v) (T : zRt d F (some ty) (some (.int v)) ws) : V l d F 0 0 ws lv pc [.int v] := by
  obtain ⟨p, e, R, s, m, args, below, meth, c, Q, A⟩ := F
  intro H locs ls hP hD hS hl
  obtain ⟨rfl, hr, hlk⟩ := T
  exact W.zret C.1 C.2.1 hr hn (fun t ht hW => ⟨⟨rfl, by rw [ht]; exact hP, va_K.moved hW.alike C.2.2.2.2.2.2.1, hD⟩, hS.F ht⟩) hS.2.2 hd hlk
theorem zr_lret {l : Launch} {d : zD} {F : zF} {ws : va_W} {lv : List (Option Value)} {pc : Nat} {own : String} {cc : ByteArray} {nL fr lo : Nat} {v : Int64} (C : zOk d F own cc nL fr lo) (hd : decode cc pc = .ok (.lreturn, 1)) (T : zRt d F (some .long) (some (.long v)) ws) : V l d F 0 0 ws lv pc [.long v] := by
  obtain ⟨p, e, R, s, m, args, below, meth, c, Q, A⟩ := F
  intro H locs ls hP hD hS hl
  obtain ⟨rfl, hr, hlk⟩ := T
  exact W.lret C.1 C.2.1 hr (fun t ht hW => ⟨⟨rfl, by rw [ht]; exact hP, va_K.moved hW.alike C.2.2.2.2.2.2.1, hD⟩, hS.F ht⟩) hS.2.2 hd hlk
theorem zr_vret {l : Launch} {d : zD} {F : zF} {ws : va_W} {lv : List (Option Value)} {pc : Nat} {own : String} {cc : ByteArray} {nL fr lo : Nat} (C : zOk d F own cc nL fr lo) (hd : decode cc pc = .ok (.return_, 1)) (T : zRt d F none none ws) : V l d F 0 0 ws lv pc [] := by
  obtain ⟨p, e, R, s, m, args, below, meth, c, Q, A⟩ := F
  intro H locs ls hP hD hS hl
  obtain ⟨rfl, hr, hlk⟩ := T
  exact W.vret C.1 C.2.1 hr (fun t ht hW => ⟨⟨rfl, by rw [ht]; exact hP, va_K.moved hW.alike C.2.2.2.2.2.2.1, hD⟩, hS.F ht⟩) hS.2.2 hd hlk
end
section
/-! The rows of the heap: fields, arrays, calls. -/
theorem z_goodIn {y : MethodName} {cy : ByteArray} {nY : Nat} {ret : Option FieldType} (h : Cond.code y cy nY ret ∈ zW) : GoodIn zW (.code y cy nY ret :: zW) := fun w hw => by
  rcases List.mem_cons.mp hw with e | e
  · rw [e]
    exact ⟨h, good_of_word (List.mem_filter.mp h).2⟩
  · exact ⟨e, good_of_word (List.mem_filter.mp e).2⟩
theorem z_w {w : Cond} (i : Nat) (h : lw_tbl[i]? = some w) (hg : goodWord w = true) : w ∈ zW := List.mem_filter.mpr ⟨List.mem_of_getElem? h, hg⟩
theorem z_sub (ws : List Cond) (ps : List Nat) (hp : ws = ps.filterMap (fun i => lw_tbl[i]?)) (hg : ws.all goodWord = true) : ∀ w ∈ ws, w ∈ zW := by
  intro w hw
  have h1 := List.all_eq_true.mp hg w hw
  rw [hp] at hw
  obtain ⟨i, -, hi⟩ := List.mem_filterMap.mp hw
  exact z_w i hi h1
theorem zr_get {l : Launch} {d : zD} {F : zF} {k n : Nat} {ws : va_W} {lv : List (Option Value)} {pc : Nat} {st : List Value} {own : String} {cc : ByteArray} {nL fr lo : Nat} {ci N idx a : Nat} {Cn : String} {T : u_T} {fs : List Value} {v : Value} (q0 : Nat) (hin : ∀ w ∈ u_ws Cn T N, w ∈ zW) (he : ws[q0]? = some (a, .inr (ci, fs))) (hc : classes[ci]? = some (Cn, T, N)) (j : Nat) (hj : j < N) (hv : fs[j]? = some v) (hT : (T j).1 = Cn) (hq : Cond.fieldLink own idx Cn (T j).2.1 (T j).2.2.1 ∈ zW) (pc' : Nat) (C : zOk d F own cc nL fr lo) (hd : decode cc pc = .ok (.getfield idx, 3)) (hp : pc + 3 = pc') (K : V l d F k n ws lv pc' (v :: st)) : V l d F k n ws lv pc (.ref a :: st) := by
  subst hp
  obtain ⟨p, e, R, s, m, args, below, meth, c, Q, A⟩ := F
  intro H locs ls hP hD hS hl
  exact va_get (D := d.1) C.1 C.2.1 C.2.2.2.2.1 hin C.2.2.2.1 C.2.2.2.2.2.2.1 hP q0 he hc j hj (C.2.2.2.2.1 _ hq) (fun x hx => by rw [← hT]; exact hx) hv hd (K H locs ls hP hD hS hl)
theorem zr_put {l : Launch} {d : zD} {F : zF} {k n : Nat} {ws : va_W} {lv : List (Option Value)} {pc : Nat} {st : List Value} {own : String} {cc : ByteArray} {nL fr lo : Nat} {ci N idx a : Nat} {Cn : String} {T : u_T} {fs : List Value} {v : Value} {ty : FieldType} {ws' : va_W} (q0 : Nat) (hin : ∀ w ∈ u_ws Cn T N, w ∈ zW) (ty0 : Nat → FieldType) (hty : ∀ k, k < N → parseFieldDescriptor (T k).2.2.1 = some (ty0 k)) (hnm : ∀ a, a < N → ∀ b, b < N → a ≠ b → (T a).2.1 ≠ (T b).2.1) (he : ws[q0]? = some (a, .inr (ci, fs))) (hc : classes[ci]? = some (Cn, T, N)) (j : Nat) (hj : j < N) (hT : (T j).1 = Cn) (hfin : (T j).2.2.2 = false) (htj : ty0 j = ty) (hn : narrow ty v = v) (hfit : fits ty v = true) (hlen : j < fs.length) (hq : Cond.fieldLink own idx Cn (T j).2.1 (T j).2.2.1 ∈ zW) (hw : ws.set q0 (a, .inr (ci, fs.set j v)) = ws') (pc' : Nat) (C : zOk d F own cc nL fr lo) (hd : decode cc pc = .ok (.putfield idx, 3)) (hp : pc + 3 = pc') (K : V l d F k n ws' lv pc' st) : V l d F k n ws lv pc (v :: .ref a :: st) := by
  subst hp
  subst hw
  subst htj
  obtain ⟨p, e, R, s, m, args, below, meth, c, Q, A⟩ := F
  intro H locs ls hP hD hS hl
  exact va_put (D := d.1) C.1 C.2.1 C.2.2.2.2.1 hin ty0 hty hnm C.2.2.2.1 C.2.2.2.2.2.2.1 hP hD hS q0 he hc j hj (C.2.2.2.2.1 _ hq) (fun x hx => by rw [← hT]; exact hx) hfin (hty j hj) hn hfit hlen hd (fun H1 locs1 hP1 hD1 hS1 => K H1 locs1 ls hP1 hD1 hS1 hl)
theorem zr_iald {l : Launch} {d : zD} {F : zF} {k n : Nat} {ws : va_W} {lv : List (Option Value)} {pc : Nat} {st : List Value} {own : String} {cc : ByteArray} {nL fr lo : Nat} {a N : Nat} {f : Nat → Int32} {i : Int32} {β : Type} {X : Option β} {out : β} (q0 : Nat) (he : ws[q0]? = some (a, .inl (d.2.1, N, .inl f))) (pc' : Nat) (C : zOk d F own cc nL fr lo) (hd : decode cc pc = .ok (.iaload, 1)) (hp : pc + 1 = pc') (hf : zin i N X = some out) (K : X = some out → V l d F k n ws lv pc' (.int (f i.toNatClampNeg) :: st)) : V l d F k n ws lv pc (.int i :: .ref a :: st) := by
  subst hp
  unfold zin at hf
  split at hf
  · cases hf
  · rename_i hin
    obtain ⟨p, e, R, s, m, args, below, meth, c, Q, A⟩ := F
    intro H locs ls hP hD hS hl
    exact va_iald (D := d.1) C.1 C.2.1 C.2.2.2.2.2.2.1 hP q0 0 he rfl hin hd (K hf H locs ls hP hD hS hl)
theorem zr_zald {l : Launch} {d : zD} {F : zF} {k n : Nat} {ws : va_W} {lv : List (Option Value)} {pc : Nat} {st : List Value} {own : String} {cc : ByteArray} {nL fr lo : Nat} {a N : Nat} {f : Nat → Int32} {i : Int32} {β : Type} {X : Option β} {out : β} (q0 : Nat) (he : ws[q0]? = some (a, .inl (d.2.2.1, N, .inl f))) (pc' : Nat) (C : zOk d F own cc nL fr lo) (hd : decode cc pc = .ok (.baload, 1)) (hp : pc + 1 = pc') (hf : zin i N X = some out) (K : X = some out → V l d F k n ws lv pc' (.int (f i.toNatClampNeg) :: st)) : V l d F k n ws lv pc (.int i :: .ref a :: st) := by
  subst hp
  unfold zin at hf
  split at hf
  · cases hf
  · rename_i hin
    obtain ⟨p, e, R, s, m, args, below, meth, c, Q, A⟩ := F
    intro H locs ls hP hD hS hl
    exact va_zald (D := d.1) C.1 C.2.1 C.2.2.2.2.2.2.1 hP q0 1 he rfl hin hd (K hf H locs ls hP hD hS hl)
theorem zr_lald {l : Launch} {d : zD} {F : zF} {k n : Nat} {ws : va_W} {lv : List (Option Value)} {pc : Nat} {st : List Value} {own : String} {cc : ByteArray} {nL fr lo : Nat} {a N : Nat} {f : Nat → Int64} {i : Int32} {β : Type} {X : Option β} {out : β} (q0 : Nat) (he : ws[q0]? = some (a, .inl (d.2.2.2.1, N, .inr (.inl f)))) (pc' : Nat) (C : zOk d F own cc nL fr lo) (hd : decode cc pc = .ok (.laload, 1)) (hp : pc + 1 = pc') (hf : zin i N X = some out) (K : X = some out → V l d F k n ws lv pc' (.long (f i.toNatClampNeg) :: st)) : V l d F k n ws lv pc (.int i :: .ref a :: st) := by
  subst hp
  unfold zin at hf
  split at hf
  · cases hf
  · rename_i hin
    obtain ⟨p, e, R, s, m, args, below, meth, c, Q, A⟩ := F
    intro H locs ls hP hD hS hl
    exact va_lald (D := d.1) C.1 C.2.1 C.2.2.2.2.2.2.1 hP q0 2 he rfl hin hd (K hf H locs ls hP hD hS hl)
theorem zr_iast {l : Launch} {d : zD} {F : zF} {k n : Nat} {ws : va_W} {lv : List (Option Value)} {pc : Nat} {st : List Value} {own : String} {cc : ByteArray} {nL fr lo : Nat} {a N : Nat} {f : Nat → Int32} {i x : Int32} {β : Type} {X : Option β} {out : β} {ws' : va_W} (q0 : Nat) (he : ws[q0]? = some (a, .inl (d.2.1, N, .inl f))) (hw : ws.set q0 (a, .inl (d.2.1, N, .inl (upd f i.toNatClampNeg (x)))) = ws') (pc' : Nat) (C : zOk d F own cc nL fr lo) (hd : decode cc pc = .ok (.iastore, 1)) (hp : pc + 1 = pc') (hf : zin i N X = some out) (K : X = some out → V l d F k n ws' lv pc' st) : V l d F k n ws lv pc (.int x :: .int i :: .ref a :: st) := by
  subst hp
  subst hw
  unfold zin at hf
  split at hf
  · cases hf
  · rename_i hin
    obtain ⟨p, e, R, s, m, args, below, meth, c, Q, A⟩ := F
    intro H locs ls hP hD hS hl
    exact va_iast (D := d.1) C.1 C.2.1 C.2.2.2.2.2.2.1 hP hD hS q0 0 he rfl hin hd (fun H1 locs1 hP1 hD1 hS1 => K hf H1 locs1 ls hP1 hD1 hS1 hl)
theorem zr_zast {l : Launch} {d : zD} {F : zF} {k n : Nat} {ws : va_W} {lv : List (Option Value)} {pc : Nat} {st : List Value} {own : String} {cc : ByteArray} {nL fr lo : Nat} {a N : Nat} {f : Nat → Int32} {i x : Int32} {β : Type} {X : Option β} {out : β} {ws' : va_W} (q0 : Nat) (he : ws[q0]? = some (a, .inl (d.2.2.1, N, .inl f))) (hw : ws.set q0 (a, .inl (d.2.2.1, N, .inl (upd f i.toNatClampNeg (vp_nar .boolean x)))) = ws') (pc' : Nat) (C : zOk d F own cc nL fr lo) (hd : decode cc pc = .ok (.bastore, 1)) (hp : pc + 1 = pc') (hf : zin i N X = some out) (K : X = some out → V l d F k n ws' lv pc' st) : V l d F k n ws lv pc (.int x :: .int i :: .ref a :: st) := by
  subst hp
  subst hw
  unfold zin at hf
  split at hf
  · cases hf
  · rename_i hin
    obtain ⟨p, e, R, s, m, args, below, meth, c, Q, A⟩ := F
    intro H locs ls hP hD hS hl
    exact va_zast (D := d.1) C.1 C.2.1 C.2.2.2.2.2.2.1 hP hD hS q0 1 he rfl hin hd (fun H1 locs1 hP1 hD1 hS1 => K hf H1 locs1 ls hP1 hD1 hS1 hl)
theorem zr_alen {l : Launch} {d : zD} {F : zF} {k n : Nat} {ws : va_W} {lv : List (Option Value)} {pc : Nat} {st : List Value} {own : String} {cc : ByteArray} {nL fr lo : Nat} {a N t0 : Nat} {cA : ClassId} {x : vp_A} {ty : FieldType} (q0 : Nat) (he : ws[q0]? = some (a, .inl (cA, x))) (ht : (zt d)[t0]? = some (cA, ty)) (pc' : Nat) (C : zOk d F own cc nL fr lo) (hd : decode cc pc = .ok (.arraylength, 1)) (hp : pc + 1 = pc') (K : V l d F k n ws lv pc' (.int (nI x.1) :: st)) : V l d F k n ws lv pc (.ref a :: st) := by
  subst hp
  obtain ⟨p, e, R, s, m, args, below, meth, c, Q, A⟩ := F
  intro H locs ls hP hD hS hl
  exact va_alen (D := d.1) C.1 C.2.1 C.2.2.2.2.2.2.1 hP q0 t0 he ht rfl hd (K H locs ls hP hD hS hl)
theorem z_blind {d : zD} {av : List Value} {sz : Nat} {ws : va_W} : FrameBlind (va_Pc av (fun U => U.heap.size = sz ∧ va_P d.1 classes ws U.heap ∧ va_K d.1 classes (zt d) U ∧ va_D (fun _ => True) ws ∧ zEc d.2.2.2.2.2 ∧ d.2.2.2.2.2 (va_A ws sz) U)) := fun a U g mk q => by
  obtain ⟨q0, q1, qP, qK, qD, qc, qE⟩ := q
  exact ⟨q0, q1, qP, va_K.moved (u := U) (U := U.calling g mk a) (Vm.Alike.refl U.vm) qK, qD, qc, qc.2.2 _ U g mk a qE⟩
theorem z_env {s U : State} {E : (Nat → Prop) → State → Prop} {A : Nat → Prop} {ws : va_W} {H : Heap} {locs : List Loc} (hc : zEc E) (h : E A s) (hA : ∀ q : Nat, s.heap.size ≤ q → A q) (hD : va_D A ws) (hS : va_S A s.heap H locs) (hU : U.heap = H) (hW : s.WarmedH U.vm) : E (va_A ws H.size) U := by
  refine hc.1 A _ U (fun q h => ?_) (hc.2.1 A s U hW (by rw [hU]; exact hS.1) (fun a h1 h2 => by rw [hU]; exact hS.2.1 a h1 h2) h)
  rcases h with ⟨k, e, h⟩ | h
  · exact hD.2 k _ h
  · exact hA q (Nat.le_trans hS.1 h)
theorem z_go {p : Program} {l : Launch} {e : Env} {R : Room} {s : State} {m : MethodId} {args : Array Value} {below : List Frame} {meth : Method} {c : Code} {H : Heap} {locs : List Loc} {Q : State → Prop} {A : Nat → Prop} {d : zD} {pc : Nat} {ls : Array Slot} {rest st0 : List Value} {a : Array Value} {r : Option Value} {ws ws' : va_W} {lv : List (Option Value)} (hr : va_Run p l e R s m args below meth c H locs 0 0 0 0 (F0 m pc ls st0) rest (zQ r d ws' (va_A ws H.size) a) (va_A ws H.size)) (hA : ∀ q : Nat, s.heap.size ≤ q → A q) (hD : va_D A ws) (hS : va_S A s.heap H locs) (hl : zh ls c.maxLocals lv) (K : V l d (p, e, R, s, m, args, below, meth, c, Q, A) 0 0 ws' lv (pc + 3) (r.toList ++ rest)) : W p l e R s m args below meth c H locs 0 0 Q (F0 m pc ls st0) := by
  have hfree : ∀ q, va_A ws H.size q → A q := fun q h => by
    rcases h with ⟨k, e, h⟩ | h
    · exact hD.2 k _ h
    · exact hA q (Nat.le_trans hS.1 h)
  intro T hT X
  obtain ⟨v, st₀, t, T', L, h0, X', hL, e1, e2, ⟨⟨hv, hP1, hK1, hD1⟩, hz, hk⟩, st⟩ := hr T hT X
  cases hv
  rw [h0] at hz hk
  obtain ⟨t2, a1, b1⟩ := K T'.heap (locs ++ L) ls (by rw [e1]; exact hP1) (hD1.weaken (fun _ _ _ h => hfree _ h)) ⟨Nat.le_trans hS.1 (by rw [e1]; exact hz), fun q h1 h2 => by rw [e1, hk q (Nat.lt_of_lt_of_le h1 hS.1) (fun z => h2 (hfree q z))]; exact hS.2.1 q h1 h2, fun q hq => by
      rcases List.mem_append.mp hq with h | h
      · exact hS.2.2 q h
      · exact hfree _ (hL q h)⟩ hl T' rfl X'
  exact ⟨t2, st t2 a1, b1⟩
/-- what the tables say of an instance method, of a static one -/
def zY (y : MethodName) (cy : ByteArray) (nY : Nat) (ret : Option FieldType) (np : Nat) : Prop := Cond.code y cy nY ret ∈ zW ∧ Cond.initialized y.cls ∈ zW ∧ y.cls ≠ "java/lang/invoke/MethodHandle" ∧ y.cls ≠ "java/lang/invoke/VarHandle" ∧ (parseMethodDescriptor y.desc).map (fun d => d.parameters.length) = some np
theorem z_len {y : MethodName} {np : Nat} (h : (parseMethodDescriptor y.desc).map (fun d => d.parameters.length) = some np) : ∀ sig, parseMethodDescriptor y.desc = some sig → np = sig.parameters.length := fun sig hs => by
  rw [hs] at h
  exact (Option.some.inj h).symm
theorem zr_callV {l : Launch} {d : zD} {F : zF} {ws : va_W} {lv : List (Option Value)} {pc : Nat} {own : String} {cc : ByteArray} {nL fr lo : Nat} {y : MethodName} {cy : ByteArray} {nY fY lY np idx ci b N : Nat} {ret : Option FieldType} {As rest st0 : List Value} {ws' : va_W} {r : Option Value} {Cn : String} {T : u_T} {fs : List Value} (hy : zY y cy nY ret np) (hy2 : Cond.instanceMethod y ∈ zW ∧ Cond.selects Cn y y ∈ zW) (q0 : Nat) (he : ws[q0]? = some (b, .inr (ci, fs))) (hc : classes[ci]? = some (Cn, T, N)) (M : zM l y cy nY ret fY lY d (.ref b :: As) ws ws' r) (hAs : As.length = np) (hst : As.reverse ++ .ref b :: rest = st0) (pc' : Nat) (C : zOk d F own cc nL fr lo) (hd : decode cc pc = .ok (.invokevirtual idx, 3)) (hp : pc + 3 = pc') (hq : Cond.methodLink own idx y ∈ zW) (hm : fY + 1 ≤ fr ∧ 8 + (nY + 11) + lY ≤ lo) (hr : (rest.map fun v => v.category).sum ≤ 8) (K : V l d F 0 0 ws' lv pc' (r.toList ++ rest)) : V l d F 0 0 ws lv pc st0 := by
  subst hp
  subst hst
  obtain ⟨p, e, R, s, m, args, below, meth, c, Q, A⟩ := F
  intro H locs ls hP hD hS hl
  have hts := C.2.2.2.2.1
  have hK := C.2.2.2.2.2.2.1
  exact z_go (va_runV (As := As) (rest := rest) (Ts := zW) ⟨C.1, C.2.1, rfl, C.2.2.2.1, hts⟩ (M H.size) ⟨⟨rfl, rfl, Nat.le_trans hm.1 C.2.2.2.2.2.2.2.1, Nat.le_trans hm.2 C.2.2.2.2.2.2.2.2.1, pay_in hts (z_goodIn hy.1), List.mem_cons_self, hts _ hy.1, hts _ hy.2.1, ⟨hy.2.2.1, hy.2.2.2.1⟩, z_len hy.2.2.2.2, hts _ hq⟩, hts _ hy2.1, hts _ hy2.2⟩ ⟨z_blind, va_recv hK hP hc he, fun U hU hW => ⟨rfl, by rw [hU], by rw [hU]; exact hP, va_K.moved hW.alike hK, hD.weaken (fun _ _ _ _ => trivial), C.2.2.2.2.2.2.2.2.2.1, z_env C.2.2.2.2.2.2.2.2.2.1 C.2.2.2.2.2.2.2.2.2.2 C.2.2.2.2.2.1 hD hS hU hW⟩⟩ rfl hAs hl.1 rfl (lv_room hr) hd ⟨Nat.zero_le _, Nat.zero_le _⟩) C.2.2.2.2.2.1 hD hS hl K
theorem zr_callS {l : Launch} {d : zD} {F : zF} {ws : va_W} {lv : List (Option Value)} {pc : Nat} {own : String} {cc : ByteArray} {nL fr lo : Nat} {y : MethodName} {cy : ByteArray} {nY fY lY np idx : Nat} {ret : Option FieldType} {As rest st0 : List Value} {ws' : va_W} {r : Option Value} (hy : zY y cy nY ret np) (hy2 : Cond.static y ∈ zW) (M : zM l y cy nY ret fY lY d As ws ws' r) (hAs : As.length = np) (hst : As.reverse ++ rest = st0) (pc' : Nat) (C : zOk d F own cc nL fr lo) (hd : decode cc pc = .ok (.invokestatic idx, 3)) (hp : pc + 3 = pc') (hq : Cond.methodLink own idx y ∈ zW) (hm : fY + 1 ≤ fr ∧ 8 + (nY + 11) + lY ≤ lo) (hr : (rest.map fun v => v.category).sum ≤ 8) (K : V l d F 0 0 ws' lv pc' (r.toList ++ rest)) : V l d F 0 0 ws lv pc st0 := by
  subst hp
  subst hst
  obtain ⟨p, e, R, s, m, args, below, meth, c, Q, A⟩ := F
  intro H locs ls hP hD hS hl
  have hts := C.2.2.2.2.1
  have hK := C.2.2.2.2.2.2.1
  exact z_go (va_runS (As := As) (rest := rest) (Ts := zW) ⟨C.1, C.2.1, rfl, C.2.2.2.1, hts⟩ (M H.size) ⟨⟨rfl, rfl, Nat.le_trans hm.1 C.2.2.2.2.2.2.2.1, Nat.le_trans hm.2 C.2.2.2.2.2.2.2.2.1, pay_in hts (z_goodIn hy.1), List.mem_cons_self, hts _ hy.1, hts _ hy.2.1, ⟨hy.2.2.1, hy.2.2.2.1⟩, z_len hy.2.2.2.2, hts _ hq⟩, hts _ hy2⟩ ⟨z_blind, fun U hU hW => ⟨rfl, by rw [hU], by rw [hU]; exact hP, va_K.moved hW.alike hK, hD.weaken (fun _ _ _ _ => trivial), C.2.2.2.2.2.2.2.2.2.1, z_env C.2.2.2.2.2.2.2.2.2.1 C.2.2.2.2.2.2.2.2.2.2 C.2.2.2.2.2.1 hD hS hU hW⟩⟩ rfl hAs hl.1 rfl (lv_room hr) hd ⟨Nat.zero_le _, Nat.zero_le _⟩) C.2.2.2.2.2.1 hD hS hl K
theorem zr_callSN {l : Launch} {d : zD} {F : zF} {ws : va_W} {lv : List (Option Value)} {pc : Nat} {own : String} {cc : ByteArray} {nL fr lo : Nat} {y : MethodName} {cy : ByteArray} {nY fY lY np idx : Nat} {ret : Option FieldType} {host : String} {As rest st0 : List Value} {ws' : va_W} {r : Option Value} (hy : zY y cy nY ret np) (hy2 : Cond.static y ∈ zW) (M : zM l y cy nY ret fY lY d As ws ws' r) (hAs : As.length = np) (hst : As.reverse ++ rest = st0) (pc' : Nat) (C : zOk d F own cc nL fr lo) (hd : decode cc pc = .ok (.invokestatic idx, 3)) (hp : pc + 3 = pc') (hq : ∀ A U, d.2.2.2.2.2 A U → va_Nw (.methodLinkNest own idx y host) U) (hm : fY + 1 ≤ fr ∧ 8 + (nY + 11) + lY ≤ lo) (hr : (rest.map fun v => v.category).sum ≤ 8) (K : V l d F 0 0 ws' lv pc' (r.toList ++ rest)) : V l d F 0 0 ws lv pc st0 := by
  subst hp
  subst hst
  obtain ⟨p, e, R, s, m, args, below, meth, c, Q, A⟩ := F
  intro H locs ls hP hD hS hl
  have hts := C.2.2.2.2.1
  have hK := C.2.2.2.2.2.2.1
  exact z_go (va_runSN (As := As) (rest := rest) (Ts := zW) ⟨C.1, C.2.1, rfl, C.2.2.2.1, hts⟩ (M H.size) ⟨⟨⟨rfl, rfl, Nat.le_trans hm.1 C.2.2.2.2.2.2.2.1, Nat.le_trans hm.2 C.2.2.2.2.2.2.2.2.1, pay_in hts (z_goodIn hy.1), List.mem_cons_self⟩, hts _ hy.1, hts _ hy.2.1, ⟨hy.2.2.1, hy.2.2.2.1⟩, z_len hy.2.2.2.2, va_Nw.use rfl (hq A s C.2.2.2.2.2.2.2.2.2.2)⟩, hts _ hy2, trivial⟩ ⟨z_blind, fun U hU hW => ⟨rfl, by rw [hU], by rw [hU]; exact hP, va_K.moved hW.alike hK, hD.weaken (fun _ _ _ _ => trivial), C.2.2.2.2.2.2.2.2.2.1, z_env C.2.2.2.2.2.2.2.2.2.1 C.2.2.2.2.2.2.2.2.2.2 C.2.2.2.2.2.1 hD hS hU hW⟩⟩ rfl hAs hl.1 rfl (lv_room hr) hd ⟨Nat.zero_le _, Nat.zero_le _⟩) C.2.2.2.2.2.1 hD hS hl K
theorem zr_callVN {l : Launch} {d : zD} {F : zF} {ws : va_W} {lv : List (Option Value)} {pc : Nat} {own : String} {cc : ByteArray} {nL fr lo : Nat} {y : MethodName} {cy : ByteArray} {nY fY lY np idx ci b N : Nat} {ret : Option FieldType} {host : String} {As rest st0 : List Value} {ws' : va_W} {r : Option Value} {Cn : String} {T : u_T} {fs : List Value} (hy : zY y cy nY ret np) (hy2 : Cond.instanceMethod y ∈ zW ∧ Cond.selects Cn y y ∈ zW) (q0 : Nat) (he : ws[q0]? = some (b, .inr (ci, fs))) (hc : classes[ci]? = some (Cn, T, N)) (M : zM l y cy nY ret fY lY d (.ref b :: As) ws ws' r) (hAs : As.length = np) (hst : As.reverse ++ .ref b :: rest = st0) (pc' : Nat) (C : zOk d F own cc nL fr lo) (hd : decode cc pc = .ok (.invokevirtual idx, 3)) (hp : pc + 3 = pc') (hq : ∀ A U, d.2.2.2.2.2 A U → va_Nw (.methodLinkNest own idx y host) U) (hm : fY + 1 ≤ fr ∧ 8 + (nY + 11) + lY ≤ lo) (hr : (rest.map fun v => v.category).sum ≤ 8) (K : V l d F 0 0 ws' lv pc' (r.toList ++ rest)) : V l d F 0 0 ws lv pc st0 := by
  subst hp
  subst hst
  obtain ⟨p, e, R, s, m, args, below, meth, c, Q, A⟩ := F
  intro H locs ls hP hD hS hl
  have hts := C.2.2.2.2.1
  have hK := C.2.2.2.2.2.2.1
  exact z_go (va_runVN (As := As) (rest := rest) (Ts := zW) ⟨C.1, C.2.1, rfl, C.2.2.2.1, hts⟩ (M H.size) ⟨⟨⟨rfl, rfl, Nat.le_trans hm.1 C.2.2.2.2.2.2.2.1, Nat.le_trans hm.2 C.2.2.2.2.2.2.2.2.1, pay_in hts (z_goodIn hy.1), List.mem_cons_self⟩, hts _ hy.1, hts _ hy.2.1, ⟨hy.2.2.1, hy.2.2.2.1⟩, z_len hy.2.2.2.2, va_Nw.use rfl (hq A s C.2.2.2.2.2.2.2.2.2.2)⟩, hts _ hy2.1, hts _ hy2.2⟩ ⟨z_blind, va_recv hK hP hc he, fun U hU hW => ⟨rfl, by rw [hU], by rw [hU]; exact hP, va_K.moved hW.alike hK, hD.weaken (fun _ _ _ _ => trivial), C.2.2.2.2.2.2.2.2.2.1, z_env C.2.2.2.2.2.2.2.2.2.1 C.2.2.2.2.2.2.2.2.2.2 C.2.2.2.2.2.1 hD hS hU hW⟩⟩ rfl hAs hl.1 rfl (lv_room hr) hd ⟨Nat.zero_le _, Nat.zero_le _⟩) C.2.2.2.2.2.1 hD hS hl K
theorem zbd_some {α β : Type} {x : Option (α × zS)} {f : α → zS → Option β} {out : β} (h : zbd x f = some out) : ∃ q, x = some q ∧ f q.1 q.2 = some out := by
  cases x with
  | none => cases h
  | some q => exact ⟨q, rfl, h⟩
theorem zr_ldc_w {l : Launch} {d : zD} {F : zF} {k n : Nat} {ws : va_W} {lv : List (Option Value)} {pc : Nat} {st : List Value} {own : String} {cc : ByteArray} {nL fr lo : Nat} {v : Int32} {i : Nat} (pc' : Nat) (C : zOk d F own cc nL fr lo) (hd : decode cc pc = .ok (.ldc_w i, 3)) (hp : pc + 3 = pc') (hq : Cond.constant own i v ∈ zW) (K : V l d F k n ws lv pc' (.int v :: st)) : V l d F k n ws lv pc st := by
  subst hp
  obtain ⟨p, e, R, s, m, args, below, meth, c, Q, A⟩ := F
  intro H locs ls hP hD hS hl
  exact lv_ldcw C.1 C.2.1 C.2.2.2.1 (C.2.2.2.2.1 _ hq) hd (K H locs ls hP hD hS hl)
theorem z_cmp0 (x y : Int64) : lg_cmp x y = 0 ↔ x = y := by
  unfold lg_cmp
  constructor
  · intro h
    repeat' split at h
    all_goals first | assumption | (exact absurd h (by decide)) | skip
    all_goals (apply Int64.toInt_inj.mp; simp only [Int64.lt_iff_toInt_lt, Int64.le_iff_toInt_le] at *; omega)
  · intro h
    subst h
    simp [Int64.lt_irrefl]
theorem zr_lcmp_ne {l : Launch} {d : zD} {F : zF} {k n : Nat} {ws : va_W} {lv : List (Option Value)} {pc : Nat} {st : List Value} {own : String} {cc : ByteArray} {nL fr lo : Nat} {x y : Int64} {off : Int} {β : Type} {X Y : Option β} {out : β} (tgt pc1 pc' : Nat) (C : zOk d F own cc nL fr lo) (hd : decode cc pc = .ok (.lcmp, 1)) (hp1 : pc + 1 = pc1) (hd1 : decode cc pc1 = .ok (.ifCond .ne off, 3)) (ht : (pc1 : Int) + off = (tgt : Int)) (hp : pc1 + 3 = pc') (hf : (if x = y then X else Y) = some out) (K1 : Y = some out → V l d F k n ws lv tgt st) (K2 : X = some out → V l d F k n ws lv pc' st) : V l d F k n ws lv pc (.long y :: .long x :: st) := by
  subst hp1
  obtain ⟨p, e, R, s, m, args, below, meth, c, Q, A⟩ := F
  intro H locs ls hP hD hS hl
  refine W.lcmp C.1 C.2.1 hd ?_
  have hf2 : (if lg_cmp x y = 0 then X else Y) = some out := by
    by_cases h : x = y
    · rw [if_pos ((z_cmp0 x y).mpr h)]; rw [if_pos h] at hf; exact hf
    · rw [if_neg (fun q => h ((z_cmp0 x y).mp q))]; rw [if_neg h] at hf; exact hf
  exact zr_if_ne (F := (p, e, R, s, m, args, below, meth, c, Q, A)) tgt pc' C hd1 ht hp hf2 K1 K2 H locs ls hP hD hS hl
theorem zr_lcmp_eq {l : Launch} {d : zD} {F : zF} {k n : Nat} {ws : va_W} {lv : List (Option Value)} {pc : Nat} {st : List Value} {own : String} {cc : ByteArray} {nL fr lo : Nat} {x y : Int64} {off : Int} {β : Type} {X Y : Option β} {out : β} (tgt pc1 pc' : Nat) (C : zOk d F own cc nL fr lo) (hd : decode cc pc = .ok (.lcmp, 1)) (hp1 : pc + 1 = pc1) (hd1 : decode cc pc1 = .ok (.ifCond .eq off, 3)) (ht : (pc1 : Int) + off = (tgt : Int)) (hp : pc1 + 3 = pc') (hf : (if x = y then X else Y) = some out) (K1 : X = some out → V l d F k n ws lv tgt st) (K2 : Y = some out → V l d F k n ws lv pc' st) : V l d F k n ws lv pc (.long y :: .long x :: st) := by
  subst hp1
  obtain ⟨p, e, R, s, m, args, below, meth, c, Q, A⟩ := F
  intro H locs ls hP hD hS hl
  refine W.lcmp C.1 C.2.1 hd ?_
  have hf2 : (if lg_cmp x y = 0 then X else Y) = some out := by
    by_cases h : x = y
    · rw [if_pos ((z_cmp0 x y).mpr h)]; rw [if_pos h] at hf; exact hf
    · rw [if_neg (fun q => h ((z_cmp0 x y).mp q))]; rw [if_neg h] at hf; exact hf
  exact zr_if_eq (F := (p, e, R, s, m, args, below, meth, c, Q, A)) tgt pc' C hd1 ht hp hf2 K1 K2 H locs ls hP hD hS hl
theorem z_ti {x c : Int32} {v : Int} (hc : c.toInt = v) (hx : x.toInt = v) : x = c := Int32.toInt_inj.mp (hx.trans hc.symm)
theorem zr_tcase {l : Launch} {d : zD} {F : zF} {k n : Nat} {ws : va_W} {lv : List (Option Value)} {pc : Nat} {st : List Value} {own : String} {cc : ByteArray} {nL fr lo : Nat} {dflt lw hi off : Int} {offs : Array Int} {len j : Nat} {x : Int32} {β : Type} {X Y : Option β} {out : β} (v : Int32) (tgt : Nat) (C : zOk d F own cc nL fr lo) (hd : decode cc pc = .ok (.tableswitch dflt lw hi offs, len)) (hc : v.toInt = lw + (j : Int)) (hh : lw + (j : Int) ≤ hi) (ho : offs[j]? = some off) (ht : (pc : Int) + off = (tgt : Int)) (hf : (if x = v then X else Y) = some out) (K1 : X = some out → V l d F k n ws lv tgt st) (K2 : ¬ x = v → Y = some out → V l d F k n ws lv pc (.int x :: st)) : V l d F k n ws lv pc (.int x :: st) := by
  by_cases hx : x = v
  · rw [if_pos hx] at hf
    subst hx
    obtain ⟨p, e, R, s, m, args, below, meth, c, Q, A⟩ := F
    intro H locs ls hP hD hS hl
    exact lv_tableIn C.1 C.2.1 hd (by omega) (by omega) (by rw [show (x.toInt - lw).toNat = j by omega]; exact ho) ht (K1 hf H locs ls hP hD hS hl)
  · rw [if_neg hx] at hf
    exact K2 hx hf
theorem zr_tdflt {l : Launch} {d : zD} {F : zF} {k n : Nat} {ws : va_W} {lv : List (Option Value)} {pc : Nat} {st : List Value} {own : String} {cc : ByteArray} {nL fr lo : Nat} {dflt lw hi : Int} {offs : Array Int} {len : Nat} {x : Int32} (tgt : Nat) (C : zOk d F own cc nL fr lo) (hd : decode cc pc = .ok (.tableswitch dflt lw hi offs, len)) (ht : (pc : Int) + dflt = (tgt : Int)) (hs : lw + (offs.size : Int) = hi + 1) (hz : ∀ j : Nat, j < offs.size → x.toInt = lw + (j : Int) → offs[j]? = some dflt) (K : V l d F k n ws lv tgt st) : V l d F k n ws lv pc (.int x :: st) := by
  obtain ⟨p, e, R, s, m, args, below, meth, c, Q, A⟩ := F
  intro H locs ls hP hD hS hl
  by_cases h1 : x.toInt < lw
  · exact lv_tableOut C.1 C.2.1 hd (Or.inl h1) ht (K H locs ls hP hD hS hl)
  · by_cases h2 : hi < x.toInt
    · exact lv_tableOut C.1 C.2.1 hd (Or.inr h2) ht (K H locs ls hP hD hS hl)
    · exact lv_tableIn C.1 C.2.1 hd h1 h2 (hz (x.toInt - lw).toNat (by omega) (by omega)) ht (K H locs ls hP hD hS hl)
end
section
theorem zb2 {a b c d : Nat} (h1 : Nat.ble a b = true) (h2 : Nat.ble c d = true) : a ≤ b ∧ c ≤ d := ⟨Nat.le_of_ble_eq_true h1, Nat.le_of_ble_eq_true h2⟩
theorem zfit {x : Int32} (h : narrow .boolean (.int x) = .int x) : fits .boolean (.int x) = true := by
  have h2 : x &&& 1 = x := by simpa [narrow] using h
  obtain ⟨j, hj, e⟩ := pk_andE x (m := 1) 1 (by decide)
  rw [h2] at e
  rcases (show j = 0 ∨ j = 1 by omega) with rfl | rfl
  · rw [e]; decide
  · rw [e]; decide
theorem zbo_some {β : Type} {y : Int32} {x : Option β} {out : β} (h : zbo y x = some out) : narrow .boolean (.int y) = .int y ∧ x = some out := by
  unfold zbo at h
  split at h
  · rename_i h1
    refine ⟨?_, h⟩
    unfold vp_nar at h1
    cases hn : narrow .boolean (.int y) with
    | int z => rw [hn] at h1; simp only at h1; rw [h1]
    | _ => simp [narrow] at hn
  · cases h
theorem q_37 : Cond.selects RX11 yX11_isHouse yX11_isHouse ∈ zW := z_w 37 (by decide +kernel) (by decide +kernel)
theorem q_38 : Cond.selects RX11 yX11_next yX11_next ∈ zW := z_w 38 (by decide +kernel) (by decide +kernel)
theorem q_39 : Cond.selects RX11 yX11_letters yX11_letters ∈ zW := z_w 39 (by decide +kernel) (by decide +kernel)
theorem q_40 : Cond.selects RX11 yX11_eRead yX11_eRead ∈ zW := z_w 40 (by decide +kernel) (by decide +kernel)
theorem q_41 : Cond.selects RX11 yX11_puts yX11_puts ∈ zW := z_w 41 (by decide +kernel) (by decide +kernel)
theorem q_42 : Cond.selects RX11 yX11_unwinds yX11_unwinds ∈ zW := z_w 42 (by decide +kernel) (by decide +kernel)
theorem q_43 : Cond.selects RX11 yX11_opensOne yX11_opensOne ∈ zW := z_w 43 (by decide +kernel) (by decide +kernel)
theorem q_44 : Cond.selects RX11 yX11_holds yX11_holds ∈ zW := z_w 44 (by decide +kernel) (by decide +kernel)
theorem q_45 : Cond.selects RX11 yX11_signOf yX11_signOf ∈ zW := z_w 45 (by decide +kernel) (by decide +kernel)
theorem q_46 : Cond.selects RX11 yX11_between yX11_between ∈ zW := z_w 46 (by decide +kernel) (by decide +kernel)
theorem q_47 : Cond.selects RX11 yX11_nearTwo yX11_nearTwo ∈ zW := z_w 47 (by decide +kernel) (by decide +kernel)
theorem q_48 : Cond.selects RX11 yX11_areNear yX11_areNear ∈ zW := z_w 48 (by decide +kernel) (by decide +kernel)
theorem q_49 : Cond.selects RX11 yX11_worth yX11_worth ∈ zW := z_w 49 (by decide +kernel) (by decide +kernel)
theorem q_50 : Cond.selects RX11 yX11_farBy yX11_farBy ∈ zW := z_w 50 (by decide +kernel) (by decide +kernel)
theorem q_51 : Cond.selects RX11 yX11_townOf yX11_townOf ∈ zW := z_w 51 (by decide +kernel) (by decide +kernel)
theorem q_52 : Cond.selects RX11 yX11_all yX11_all ∈ zW := z_w 52 (by decide +kernel) (by decide +kernel)
theorem q_53 : Cond.selects RX11 yX11_reached yX11_reached ∈ zW := z_w 53 (by decide +kernel) (by decide +kernel)
theorem q_54 : Cond.selects RX11 yX11_isShape yX11_isShape ∈ zW := z_w 54 (by decide +kernel) (by decide +kernel)
theorem q_55 : Cond.selects RX11 yX11_reach yX11_reach ∈ zW := z_w 55 (by decide +kernel) (by decide +kernel)
theorem q_56 : Cond.selects RX11 yX11_middle yX11_middle ∈ zW := z_w 56 (by decide +kernel) (by decide +kernel)
theorem q_57 : Cond.selects RX11 yX11_looks yX11_looks ∈ zW := z_w 57 (by decide +kernel) (by decide +kernel)
theorem q_58 : Cond.selects RX11 yX11_spans yX11_spans ∈ zW := z_w 58 (by decide +kernel) (by decide +kernel)
theorem q_59 : Cond.selects RX11 yX11_isIn yX11_isIn ∈ zW := z_w 59 (by decide +kernel) (by decide +kernel)
theorem q_60 : Cond.selects RX11 yX11_byHouses yX11_byHouses ∈ zW := z_w 60 (by decide +kernel) (by decide +kernel)
theorem q_61 : Cond.selects RX11 yX11_isBox yX11_isBox ∈ zW := z_w 61 (by decide +kernel) (by decide +kernel)
theorem q_62 : Cond.selects RX11 yX11_marksOne yX11_marksOne ∈ zW := z_w 62 (by decide +kernel) (by decide +kernel)
theorem q_63 : Cond.selects RX11 yX11_marksOther yX11_marksOther ∈ zW := z_w 63 (by decide +kernel) (by decide +kernel)
theorem q_64 : Cond.selects RX11 yX11_spreads yX11_spreads ∈ zW := z_w 64 (by decide +kernel) (by decide +kernel)
theorem q_65 : Cond.selects RX11 yX11_cost yX11_cost ∈ zW := z_w 65 (by decide +kernel) (by decide +kernel)
theorem q_66 : Cond.selects RX11 yX11_tries yX11_tries ∈ zW := z_w 66 (by decide +kernel) (by decide +kernel)
theorem q_67 : Cond.selects RX11 yX11_isPerson yX11_isPerson ∈ zW := z_w 67 (by decide +kernel) (by decide +kernel)
theorem q_68 : Cond.selects RX11 yX11_isOut yX11_isOut ∈ zW := z_w 68 (by decide +kernel) (by decide +kernel)
theorem q_69 : Cond.selects RX11 yX11_why yX11_why ∈ zW := z_w 69 (by decide +kernel) (by decide +kernel)
theorem q_70 : Cond.selects RX11 yX11_joins yX11_joins ∈ zW := z_w 70 (by decide +kernel) (by decide +kernel)
theorem q_90 : Cond.initialized RX11 ∈ zW := z_w 90 (by decide +kernel) (by decide +kernel)
theorem q_991 : Cond.fieldLink RX11 143 RX11 "houses" "I" ∈ zW := z_w 991 (by decide +kernel) (by decide +kernel)
theorem q_992 : Cond.fieldLink RX11 7 RX11 "place" "[I" ∈ zW := z_w 992 (by decide +kernel) (by decide +kernel)
theorem q_993 : Cond.fieldLink RX11 13 RX11 "isHut" "[I" ∈ zW := z_w 993 (by decide +kernel) (by decide +kernel)
theorem q_994 : Cond.fieldLink RX11 257 RX11 "shapes" "I" ∈ zW := z_w 994 (by decide +kernel) (by decide +kernel)
theorem q_995 : Cond.fieldLink RX11 16 RX11 "kind" "[I" ∈ zW := z_w 995 (by decide +kernel) (by decide +kernel)
theorem q_996 : Cond.fieldLink RX11 19 RX11 "houseOf" "[I" ∈ zW := z_w 996 (by decide +kernel) (by decide +kernel)
theorem q_997 : Cond.fieldLink RX11 22 RX11 "more" "[I" ∈ zW := z_w 997 (by decide +kernel) (by decide +kernel)
theorem q_998 : Cond.fieldLink RX11 260 RX11 "loaf" "I" ∈ zW := z_w 998 (by decide +kernel) (by decide +kernel)
theorem q_999 : Cond.fieldLink RX11 229 RX11 "ravines" "I" ∈ zW := z_w 999 (by decide +kernel) (by decide +kernel)
theorem q_1000 : Cond.fieldLink RX11 25 RX11 "ravineWay" "[I" ∈ zW := z_w 1000 (by decide +kernel) (by decide +kernel)
theorem q_1001 : Cond.fieldLink RX11 28 RX11 "ravineAt" "[I" ∈ zW := z_w 1001 (by decide +kernel) (by decide +kernel)
theorem q_1002 : Cond.fieldLink RX11 31 RX11 "ravineFrom" "[I" ∈ zW := z_w 1002 (by decide +kernel) (by decide +kernel)
theorem q_1003 : Cond.fieldLink RX11 34 RX11 "ravineTo" "[I" ∈ zW := z_w 1003 (by decide +kernel) (by decide +kernel)
theorem q_1004 : Cond.fieldLink RX11 37 RX11 "ravineWide" "[I" ∈ zW := z_w 1004 (by decide +kernel) (by decide +kernel)
theorem q_1005 : Cond.fieldLink RX11 328 RX11 "people" "I" ∈ zW := z_w 1005 (by decide +kernel) (by decide +kernel)
theorem q_1006 : Cond.fieldLink RX11 40 RX11 "personAt" "[I" ∈ zW := z_w 1006 (by decide +kernel) (by decide +kernel)
theorem q_1007 : Cond.fieldLink RX11 43 RX11 "bound" "[I" ∈ zW := z_w 1007 (by decide +kernel) (by decide +kernel)
theorem q_1008 : Cond.fieldLink RX11 337 RX11 "wells" "I" ∈ zW := z_w 1008 (by decide +kernel) (by decide +kernel)
theorem q_1009 : Cond.fieldLink RX11 46 RX11 "wellAt" "[I" ∈ zW := z_w 1009 (by decide +kernel) (by decide +kernel)
theorem q_1010 : Cond.fieldLink RX11 49 RX11 "tape" "[I" ∈ zW := z_w 1010 (by decide +kernel) (by decide +kernel)
theorem q_1011 : Cond.fieldLink RX11 157 RX11 "taped" "I" ∈ zW := z_w 1011 (by decide +kernel) (by decide +kernel)
theorem q_1012 : Cond.fieldLink RX11 52 RX11 "codes" "[I" ∈ zW := z_w 1012 (by decide +kernel) (by decide +kernel)
theorem q_1013 : Cond.fieldLink RX11 55 RX11 "starts" "[I" ∈ zW := z_w 1013 (by decide +kernel) (by decide +kernel)
theorem q_1014 : Cond.fieldLink RX11 58 RX11 "texts" "I" ∈ zW := z_w 1014 (by decide +kernel) (by decide +kernel)
theorem q_1015 : Cond.fieldLink RX11 218 RX11 "rule" "I" ∈ zW := z_w 1015 (by decide +kernel) (by decide +kernel)
theorem q_1016 : Cond.fieldLink RX11 346 RX11 "hasImage" "Z" ∈ zW := z_w 1016 (by decide +kernel) (by decide +kernel)
theorem q_1017 : Cond.fieldLink RX11 350 RX11 "imageHouses" "I" ∈ zW := z_w 1017 (by decide +kernel) (by decide +kernel)
theorem q_1018 : Cond.fieldLink RX11 353 RX11 "imagePeople" "I" ∈ zW := z_w 1018 (by decide +kernel) (by decide +kernel)
theorem q_1019 : Cond.fieldLink RX11 356 RX11 "imageLoaf" "I" ∈ zW := z_w 1019 (by decide +kernel) (by decide +kernel)
theorem q_1020 : Cond.fieldLink RX11 359 RX11 "imageRule" "I" ∈ zW := z_w 1020 (by decide +kernel) (by decide +kernel)
theorem q_1021 : Cond.fieldLink RX11 62 RX11 "imageHut" "[I" ∈ zW := z_w 1021 (by decide +kernel) (by decide +kernel)
theorem q_1022 : Cond.fieldLink RX11 65 RX11 "imageAt" "[I" ∈ zW := z_w 1022 (by decide +kernel) (by decide +kernel)
theorem q_1023 : Cond.fieldLink RX11 68 RX11 "sheetSort" "[I" ∈ zW := z_w 1023 (by decide +kernel) (by decide +kernel)
theorem q_1024 : Cond.fieldLink RX11 71 RX11 "sheetSize" "[I" ∈ zW := z_w 1024 (by decide +kernel) (by decide +kernel)
theorem q_1025 : Cond.fieldLink RX11 74 RX11 "cells" "[I" ∈ zW := z_w 1025 (by decide +kernel) (by decide +kernel)
theorem q_1026 : Cond.fieldLink RX11 162 RX11 "at" "I" ∈ zW := z_w 1026 (by decide +kernel) (by decide +kernel)
theorem q_1027 : Cond.fieldLink RX11 165 RX11 "begun" "I" ∈ zW := z_w 1027 (by decide +kernel) (by decide +kernel)
theorem q_1028 : Cond.fieldLink RX11 168 RX11 "token" "I" ∈ zW := z_w 1028 (by decide +kernel) (by decide +kernel)
theorem q_1029 : Cond.fieldLink RX11 171 RX11 "value" "I" ∈ zW := z_w 1029 (by decide +kernel) (by decide +kernel)
theorem q_1030 : Cond.fieldLink RX11 99 RX11 "words" "[J" ∈ zW := z_w 1030 (by decide +kernel) (by decide +kernel)
theorem q_1031 : Cond.fieldLink RX11 103 RX11 "held" "[I" ∈ zW := z_w 1031 (by decide +kernel) (by decide +kernel)
theorem q_1032 : Cond.fieldLink RX11 181 RX11 "heldMany" "I" ∈ zW := z_w 1032 (by decide +kernel) (by decide +kernel)
theorem q_1033 : Cond.fieldLink RX11 187 RX11 "opens" "I" ∈ zW := z_w 1033 (by decide +kernel) (by decide +kernel)
theorem q_1034 : Cond.fieldLink RX11 178 RX11 "out" "I" ∈ zW := z_w 1034 (by decide +kernel) (by decide +kernel)
theorem q_1035 : Cond.fieldLink RX11 106 RX11 "stack" "[I" ∈ zW := z_w 1035 (by decide +kernel) (by decide +kernel)
theorem q_1036 : Cond.fieldLink RX11 109 RX11 "named" "[I" ∈ zW := z_w 1036 (by decide +kernel) (by decide +kernel)
theorem q_1037 : Cond.fieldLink RX11 284 RX11 "nowReach" "I" ∈ zW := z_w 1037 (by decide +kernel) (by decide +kernel)
theorem q_1038 : Cond.fieldLink RX11 287 RX11 "nowTown" "I" ∈ zW := z_w 1038 (by decide +kernel) (by decide +kernel)
theorem q_1039 : Cond.fieldLink RX11 272 RX11 "lowX" "I" ∈ zW := z_w 1039 (by decide +kernel) (by decide +kernel)
theorem q_1040 : Cond.fieldLink RX11 275 RX11 "highX" "I" ∈ zW := z_w 1040 (by decide +kernel) (by decide +kernel)
theorem q_1041 : Cond.fieldLink RX11 278 RX11 "lowY" "I" ∈ zW := z_w 1041 (by decide +kernel) (by decide +kernel)
theorem q_1042 : Cond.fieldLink RX11 281 RX11 "highY" "I" ∈ zW := z_w 1042 (by decide +kernel) (by decide +kernel)
theorem q_1043 : Cond.fieldLink RX11 112 RX11 "inOne" "[Z" ∈ zW := z_w 1043 (by decide +kernel) (by decide +kernel)
theorem q_1044 : Cond.fieldLink RX11 116 RX11 "inOther" "[Z" ∈ zW := z_w 1044 (by decide +kernel) (by decide +kernel)
theorem q_1045 : Cond.fieldLink RX11 119 RX11 "least" "[I" ∈ zW := z_w 1045 (by decide +kernel) (by decide +kernel)
theorem q_1046 : Cond.fieldLink RX11 122 RX11 "ring" "[I" ∈ zW := z_w 1046 (by decide +kernel) (by decide +kernel)
theorem q_1047 : Cond.fieldLink RX11 125 RX11 "waits" "[Z" ∈ zW := z_w 1047 (by decide +kernel) (by decide +kernel)
theorem q_1048 : Cond.fieldLink RX11 311 RX11 "ringFrom" "I" ∈ zW := z_w 1048 (by decide +kernel) (by decide +kernel)
theorem q_1049 : Cond.fieldLink RX11 314 RX11 "ringMany" "I" ∈ zW := z_w 1049 (by decide +kernel) (by decide +kernel)
theorem q_1050 : Cond.fieldLink RX11 128 RX11 "kept" "[I" ∈ zW := z_w 1050 (by decide +kernel) (by decide +kernel)
theorem q_1175 : Cond.instanceMethod yX11_house ∈ zW := z_w 1175 (by decide +kernel) (by decide +kernel)
theorem q_1176 : Cond.selects RX11 yX11_house yX11_house ∈ zW := z_w 1176 (by decide +kernel) (by decide +kernel)
theorem q_1177 : Cond.code yX11_house cX11_house 3 (some .int) ∈ zW := z_w 1177 (by decide +kernel) (by decide +kernel)
theorem q_1178 : Cond.methodLink RX11 150 yX11_isPlace ∈ zW := z_w 1178 (by decide +kernel) (by decide +kernel)
theorem q_1179 : Cond.static yX11_isPlace ∈ zW := z_w 1179 (by decide +kernel) (by decide +kernel)
theorem q_1180 : Cond.code yX11_isPlace cX11_isPlace 1 (some .boolean) ∈ zW := z_w 1180 (by decide +kernel) (by decide +kernel)
theorem q_1181 : Cond.methodLink RX11 139 yX11_in ∈ zW := z_w 1181 (by decide +kernel) (by decide +kernel)
theorem q_1182 : Cond.static yX11_in ∈ zW := z_w 1182 (by decide +kernel) (by decide +kernel)
theorem q_1183 : Cond.code yX11_in cX11_in 3 (some .boolean) ∈ zW := z_w 1183 (by decide +kernel) (by decide +kernel)
theorem q_1185 : Cond.instanceMethod yX11_hut ∈ zW := z_w 1185 (by decide +kernel) (by decide +kernel)
theorem q_1186 : Cond.selects RX11 yX11_hut yX11_hut ∈ zW := z_w 1186 (by decide +kernel) (by decide +kernel)
theorem q_1187 : Cond.code yX11_hut cX11_hut 4 (some .int) ∈ zW := z_w 1187 (by decide +kernel) (by decide +kernel)
theorem q_1188 : Cond.methodLink RX11 154 yX11_isHouse ∈ zW := z_w 1188 (by decide +kernel) (by decide +kernel)
theorem q_1190 : Cond.instanceMethod yX11_isHouse ∈ zW := z_w 1190 (by decide +kernel) (by decide +kernel)
theorem q_1191 : Cond.code yX11_isHouse cX11_isHouse 2 (some .boolean) ∈ zW := z_w 1191 (by decide +kernel) (by decide +kernel)
theorem q_1193 : Cond.instanceMethod yX11_feed ∈ zW := z_w 1193 (by decide +kernel) (by decide +kernel)
theorem q_1194 : Cond.selects RX11 yX11_feed yX11_feed ∈ zW := z_w 1194 (by decide +kernel) (by decide +kernel)
theorem q_1195 : Cond.code yX11_feed cX11_feed 5 (some .int) ∈ zW := z_w 1195 (by decide +kernel) (by decide +kernel)
theorem q_1196 : Cond.constantLong RX11 160 (255) ∈ zW := z_w 1196 (by decide +kernel) (by decide +kernel)
theorem q_1198 : Cond.instanceMethod yX11_text ∈ zW := z_w 1198 (by decide +kernel) (by decide +kernel)
theorem q_1199 : Cond.selects RX11 yX11_text yX11_text ∈ zW := z_w 1199 (by decide +kernel) (by decide +kernel)
theorem q_1200 : Cond.code yX11_text cX11_text 3 (some .int) ∈ zW := z_w 1200 (by decide +kernel) (by decide +kernel)
theorem q_1201 : Cond.methodLink RX11 200 yX11_next ∈ zW := z_w 1201 (by decide +kernel) (by decide +kernel)
theorem q_1203 : Cond.instanceMethod yX11_next ∈ zW := z_w 1203 (by decide +kernel) (by decide +kernel)
theorem q_1204 : Cond.code yX11_next cX11_next 5 none ∈ zW := z_w 1204 (by decide +kernel) (by decide +kernel)
theorem q_1205 : Cond.methodLink RX11 174 yX11_letters ∈ zW := z_w 1205 (by decide +kernel) (by decide +kernel)
theorem q_1207 : Cond.instanceMethod yX11_letters ∈ zW := z_w 1207 (by decide +kernel) (by decide +kernel)
theorem q_1208 : Cond.code yX11_letters cX11_letters 4 (some .long) ∈ zW := z_w 1208 (by decide +kernel) (by decide +kernel)
theorem q_1209 : Cond.methodLink RX11 214 yX11_eRead ∈ zW := z_w 1209 (by decide +kernel) (by decide +kernel)
theorem q_1211 : Cond.instanceMethod yX11_eRead ∈ zW := z_w 1211 (by decide +kernel) (by decide +kernel)
theorem q_1212 : Cond.code yX11_eRead cX11_eRead 4 (some .boolean) ∈ zW := z_w 1212 (by decide +kernel) (by decide +kernel)
theorem q_1213 : Cond.constant RX11 203 (100000) ∈ zW := z_w 1213 (by decide +kernel) (by decide +kernel)
theorem q_1214 : Cond.methodLink RX11 190 yX11_puts ∈ zW := z_w 1214 (by decide +kernel) (by decide +kernel)
theorem q_1216 : Cond.instanceMethod yX11_puts ∈ zW := z_w 1216 (by decide +kernel) (by decide +kernel)
theorem q_1217 : Cond.code yX11_puts cX11_puts 2 none ∈ zW := z_w 1217 (by decide +kernel) (by decide +kernel)
theorem q_1218 : Cond.methodLink RX11 197 yX11_unwinds ∈ zW := z_w 1218 (by decide +kernel) (by decide +kernel)
theorem q_1220 : Cond.instanceMethod yX11_unwinds ∈ zW := z_w 1220 (by decide +kernel) (by decide +kernel)
theorem q_1221 : Cond.code yX11_unwinds cX11_unwinds 3 none ∈ zW := z_w 1221 (by decide +kernel) (by decide +kernel)
theorem q_1222 : Cond.methodLink RX11 184 yX11_rank ∈ zW := z_w 1222 (by decide +kernel) (by decide +kernel)
theorem q_1223 : Cond.static yX11_rank ∈ zW := z_w 1223 (by decide +kernel) (by decide +kernel)
theorem q_1224 : Cond.code yX11_rank cX11_rank 1 (some .int) ∈ zW := z_w 1224 (by decide +kernel) (by decide +kernel)
theorem q_1225 : Cond.methodLink RX11 204 yX11_opensOne ∈ zW := z_w 1225 (by decide +kernel) (by decide +kernel)
theorem q_1227 : Cond.instanceMethod yX11_opensOne ∈ zW := z_w 1227 (by decide +kernel) (by decide +kernel)
theorem q_1228 : Cond.code yX11_opensOne cX11_opensOne 2 (some .boolean) ∈ zW := z_w 1228 (by decide +kernel) (by decide +kernel)
theorem q_1229 : Cond.methodLink RX11 194 yX11_holds ∈ zW := z_w 1229 (by decide +kernel) (by decide +kernel)
theorem q_1231 : Cond.instanceMethod yX11_holds ∈ zW := z_w 1231 (by decide +kernel) (by decide +kernel)
theorem q_1232 : Cond.code yX11_holds cX11_holds 2 none ∈ zW := z_w 1232 (by decide +kernel) (by decide +kernel)
theorem q_1233 : Cond.methodLink RX11 207 yX11_signOf ∈ zW := z_w 1233 (by decide +kernel) (by decide +kernel)
theorem q_1235 : Cond.instanceMethod yX11_signOf ∈ zW := z_w 1235 (by decide +kernel) (by decide +kernel)
theorem q_1236 : Cond.code yX11_signOf cX11_signOf 1 (some .int) ∈ zW := z_w 1236 (by decide +kernel) (by decide +kernel)
theorem q_1237 : Cond.methodLink RX11 211 yX11_between ∈ zW := z_w 1237 (by decide +kernel) (by decide +kernel)
theorem q_1239 : Cond.instanceMethod yX11_between ∈ zW := z_w 1239 (by decide +kernel) (by decide +kernel)
theorem q_1240 : Cond.code yX11_between cX11_between 2 (some .boolean) ∈ zW := z_w 1240 (by decide +kernel) (by decide +kernel)
theorem q_1242 : Cond.instanceMethod yX11_force ∈ zW := z_w 1242 (by decide +kernel) (by decide +kernel)
theorem q_1243 : Cond.selects RX11 yX11_force yX11_force ∈ zW := z_w 1243 (by decide +kernel) (by decide +kernel)
theorem q_1244 : Cond.code yX11_force cX11_force 3 (some .int) ∈ zW := z_w 1244 (by decide +kernel) (by decide +kernel)
theorem q_1246 : Cond.instanceMethod yX11_near ∈ zW := z_w 1246 (by decide +kernel) (by decide +kernel)
theorem q_1247 : Cond.selects RX11 yX11_near yX11_near ∈ zW := z_w 1247 (by decide +kernel) (by decide +kernel)
theorem q_1248 : Cond.code yX11_near cX11_near 3 (some .int) ∈ zW := z_w 1248 (by decide +kernel) (by decide +kernel)
theorem q_1249 : Cond.methodLink RX11 238 yX11_nearTwo ∈ zW := z_w 1249 (by decide +kernel) (by decide +kernel)
theorem q_1251 : Cond.instanceMethod yX11_nearTwo ∈ zW := z_w 1251 (by decide +kernel) (by decide +kernel)
theorem q_1252 : Cond.code yX11_nearTwo cX11_nearTwo 3 (some .boolean) ∈ zW := z_w 1252 (by decide +kernel) (by decide +kernel)
theorem q_1253 : Cond.methodLink RX11 235 yX11_areNear ∈ zW := z_w 1253 (by decide +kernel) (by decide +kernel)
theorem q_1255 : Cond.instanceMethod yX11_areNear ∈ zW := z_w 1255 (by decide +kernel) (by decide +kernel)
theorem q_1256 : Cond.code yX11_areNear cX11_areNear 6 (some .boolean) ∈ zW := z_w 1256 (by decide +kernel) (by decide +kernel)
theorem q_1257 : Cond.methodLink RX11 225 yX11_apart ∈ zW := z_w 1257 (by decide +kernel) (by decide +kernel)
theorem q_1258 : Cond.static yX11_apart ∈ zW := z_w 1258 (by decide +kernel) (by decide +kernel)
theorem q_1259 : Cond.code yX11_apart cX11_apart 2 (some .int) ∈ zW := z_w 1259 (by decide +kernel) (by decide +kernel)
theorem q_1260 : Cond.methodLink RX11 146 yX11_abs ∈ zW := z_w 1260 (by decide +kernel) (by decide +kernel)
theorem q_1261 : Cond.static yX11_abs ∈ zW := z_w 1261 (by decide +kernel) (by decide +kernel)
theorem q_1262 : Cond.code yX11_abs cX11_abs 1 (some .int) ∈ zW := z_w 1262 (by decide +kernel) (by decide +kernel)
theorem q_1263 : Cond.methodLink RX11 232 yX11_worth ∈ zW := z_w 1263 (by decide +kernel) (by decide +kernel)
theorem q_1265 : Cond.instanceMethod yX11_worth ∈ zW := z_w 1265 (by decide +kernel) (by decide +kernel)
theorem q_1266 : Cond.code yX11_worth cX11_worth 5 (some .int) ∈ zW := z_w 1266 (by decide +kernel) (by decide +kernel)
theorem q_1267 : Cond.methodLink RX11 221 yX11_two ∈ zW := z_w 1267 (by decide +kernel) (by decide +kernel)
theorem q_1268 : Cond.static yX11_two ∈ zW := z_w 1268 (by decide +kernel) (by decide +kernel)
theorem q_1269 : Cond.code yX11_two cX11_two 3 (some .int) ∈ zW := z_w 1269 (by decide +kernel) (by decide +kernel)
theorem q_1271 : Cond.instanceMethod yX11_far ∈ zW := z_w 1271 (by decide +kernel) (by decide +kernel)
theorem q_1272 : Cond.selects RX11 yX11_far yX11_far ∈ zW := z_w 1272 (by decide +kernel) (by decide +kernel)
theorem q_1273 : Cond.code yX11_far cX11_far 2 (some .int) ∈ zW := z_w 1273 (by decide +kernel) (by decide +kernel)
theorem q_1274 : Cond.methodLink RX11 242 yX11_farBy ∈ zW := z_w 1274 (by decide +kernel) (by decide +kernel)
theorem q_1276 : Cond.instanceMethod yX11_farBy ∈ zW := z_w 1276 (by decide +kernel) (by decide +kernel)
theorem q_1277 : Cond.code yX11_farBy cX11_farBy 3 (some .int) ∈ zW := z_w 1277 (by decide +kernel) (by decide +kernel)
theorem q_1279 : Cond.instanceMethod yX11_town ∈ zW := z_w 1279 (by decide +kernel) (by decide +kernel)
theorem q_1280 : Cond.selects RX11 yX11_town yX11_town ∈ zW := z_w 1280 (by decide +kernel) (by decide +kernel)
theorem q_1281 : Cond.code yX11_town cX11_town 2 (some .int) ∈ zW := z_w 1281 (by decide +kernel) (by decide +kernel)
theorem q_1282 : Cond.methodLink RX11 251 yX11_townOf ∈ zW := z_w 1282 (by decide +kernel) (by decide +kernel)
theorem q_1284 : Cond.instanceMethod yX11_townOf ∈ zW := z_w 1284 (by decide +kernel) (by decide +kernel)
theorem q_1285 : Cond.code yX11_townOf cX11_townOf 2 (some .int) ∈ zW := z_w 1285 (by decide +kernel) (by decide +kernel)
theorem q_1286 : Cond.methodLink RX11 245 yX11_all ∈ zW := z_w 1286 (by decide +kernel) (by decide +kernel)
theorem q_1288 : Cond.instanceMethod yX11_all ∈ zW := z_w 1288 (by decide +kernel) (by decide +kernel)
theorem q_1289 : Cond.code yX11_all cX11_all 1 (some .int) ∈ zW := z_w 1289 (by decide +kernel) (by decide +kernel)
theorem q_1290 : Cond.methodLink RX11 248 yX11_reached ∈ zW := z_w 1290 (by decide +kernel) (by decide +kernel)
theorem q_1292 : Cond.instanceMethod yX11_reached ∈ zW := z_w 1292 (by decide +kernel) (by decide +kernel)
theorem q_1293 : Cond.code yX11_reached cX11_reached 7 (some .int) ∈ zW := z_w 1293 (by decide +kernel) (by decide +kernel)
theorem q_1295 : Cond.instanceMethod yX11_burn ∈ zW := z_w 1295 (by decide +kernel) (by decide +kernel)
theorem q_1296 : Cond.selects RX11 yX11_burn yX11_burn ∈ zW := z_w 1296 (by decide +kernel) (by decide +kernel)
theorem q_1297 : Cond.code yX11_burn cX11_burn 6 (some .int) ∈ zW := z_w 1297 (by decide +kernel) (by decide +kernel)
theorem q_1298 : Cond.methodLink RX11 254 yX11_lowBit ∈ zW := z_w 1298 (by decide +kernel) (by decide +kernel)
theorem q_1299 : Cond.static yX11_lowBit ∈ zW := z_w 1299 (by decide +kernel) (by decide +kernel)
theorem q_1300 : Cond.code yX11_lowBit cX11_lowBit 2 (some .int) ∈ zW := z_w 1300 (by decide +kernel) (by decide +kernel)
theorem q_1302 : Cond.instanceMethod yX11_shape ∈ zW := z_w 1302 (by decide +kernel) (by decide +kernel)
theorem q_1303 : Cond.selects RX11 yX11_shape yX11_shape ∈ zW := z_w 1303 (by decide +kernel) (by decide +kernel)
theorem q_1304 : Cond.code yX11_shape cX11_shape 4 (some .int) ∈ zW := z_w 1304 (by decide +kernel) (by decide +kernel)
theorem q_1306 : Cond.instanceMethod yX11_loaf ∈ zW := z_w 1306 (by decide +kernel) (by decide +kernel)
theorem q_1307 : Cond.selects RX11 yX11_loaf yX11_loaf ∈ zW := z_w 1307 (by decide +kernel) (by decide +kernel)
theorem q_1308 : Cond.code yX11_loaf cX11_loaf 3 (some .int) ∈ zW := z_w 1308 (by decide +kernel) (by decide +kernel)
theorem q_1310 : Cond.instanceMethod yX11_shapeTold ∈ zW := z_w 1310 (by decide +kernel) (by decide +kernel)
theorem q_1311 : Cond.selects RX11 yX11_shapeTold yX11_shapeTold ∈ zW := z_w 1311 (by decide +kernel) (by decide +kernel)
theorem q_1312 : Cond.code yX11_shapeTold cX11_shapeTold 3 (some .int) ∈ zW := z_w 1312 (by decide +kernel) (by decide +kernel)
theorem q_1313 : Cond.methodLink RX11 263 yX11_isShape ∈ zW := z_w 1313 (by decide +kernel) (by decide +kernel)
theorem q_1315 : Cond.instanceMethod yX11_isShape ∈ zW := z_w 1315 (by decide +kernel) (by decide +kernel)
theorem q_1316 : Cond.code yX11_isShape cX11_isShape 2 (some .boolean) ∈ zW := z_w 1316 (by decide +kernel) (by decide +kernel)
theorem q_1317 : Cond.methodLink RX11 266 yX11_reach ∈ zW := z_w 1317 (by decide +kernel) (by decide +kernel)
theorem q_1319 : Cond.instanceMethod yX11_reach ∈ zW := z_w 1319 (by decide +kernel) (by decide +kernel)
theorem q_1320 : Cond.code yX11_reach cX11_reach 3 (some .int) ∈ zW := z_w 1320 (by decide +kernel) (by decide +kernel)
theorem q_1321 : Cond.methodLink RX11 269 yX11_middle ∈ zW := z_w 1321 (by decide +kernel) (by decide +kernel)
theorem q_1323 : Cond.instanceMethod yX11_middle ∈ zW := z_w 1323 (by decide +kernel) (by decide +kernel)
theorem q_1324 : Cond.code yX11_middle cX11_middle 2 (some .int) ∈ zW := z_w 1324 (by decide +kernel) (by decide +kernel)
theorem q_1326 : Cond.instanceMethod yX11_within ∈ zW := z_w 1326 (by decide +kernel) (by decide +kernel)
theorem q_1327 : Cond.selects RX11 yX11_within yX11_within ∈ zW := z_w 1327 (by decide +kernel) (by decide +kernel)
theorem q_1328 : Cond.code yX11_within cX11_within 3 (some .int) ∈ zW := z_w 1328 (by decide +kernel) (by decide +kernel)
theorem q_1329 : Cond.methodLink RX11 299 yX11_looks ∈ zW := z_w 1329 (by decide +kernel) (by decide +kernel)
theorem q_1331 : Cond.instanceMethod yX11_looks ∈ zW := z_w 1331 (by decide +kernel) (by decide +kernel)
theorem q_1332 : Cond.code yX11_looks cX11_looks 3 none ∈ zW := z_w 1332 (by decide +kernel) (by decide +kernel)
theorem q_1333 : Cond.methodLink RX11 290 yX11_spans ∈ zW := z_w 1333 (by decide +kernel) (by decide +kernel)
theorem q_1335 : Cond.instanceMethod yX11_spans ∈ zW := z_w 1335 (by decide +kernel) (by decide +kernel)
theorem q_1336 : Cond.code yX11_spans cX11_spans 4 none ∈ zW := z_w 1336 (by decide +kernel) (by decide +kernel)
theorem q_1337 : Cond.methodLink RX11 302 yX11_isIn ∈ zW := z_w 1337 (by decide +kernel) (by decide +kernel)
theorem q_1339 : Cond.instanceMethod yX11_isIn ∈ zW := z_w 1339 (by decide +kernel) (by decide +kernel)
theorem q_1340 : Cond.code yX11_isIn cX11_isIn 3 (some .boolean) ∈ zW := z_w 1340 (by decide +kernel) (by decide +kernel)
theorem q_1341 : Cond.methodLink RX11 293 yX11_byHouses ∈ zW := z_w 1341 (by decide +kernel) (by decide +kernel)
theorem q_1343 : Cond.instanceMethod yX11_byHouses ∈ zW := z_w 1343 (by decide +kernel) (by decide +kernel)
theorem q_1344 : Cond.code yX11_byHouses cX11_byHouses 3 (some .boolean) ∈ zW := z_w 1344 (by decide +kernel) (by decide +kernel)
theorem q_1345 : Cond.methodLink RX11 296 yX11_isBox ∈ zW := z_w 1345 (by decide +kernel) (by decide +kernel)
theorem q_1347 : Cond.instanceMethod yX11_isBox ∈ zW := z_w 1347 (by decide +kernel) (by decide +kernel)
theorem q_1348 : Cond.code yX11_isBox cX11_isBox 3 (some .boolean) ∈ zW := z_w 1348 (by decide +kernel) (by decide +kernel)
theorem q_1350 : Cond.instanceMethod yX11_size ∈ zW := z_w 1350 (by decide +kernel) (by decide +kernel)
theorem q_1351 : Cond.selects RX11 yX11_size yX11_size ∈ zW := z_w 1351 (by decide +kernel) (by decide +kernel)
theorem q_1352 : Cond.code yX11_size cX11_size 2 (some .int) ∈ zW := z_w 1352 (by decide +kernel) (by decide +kernel)
theorem q_1353 : Cond.methodLink RX11 305 yX11_marksOne ∈ zW := z_w 1353 (by decide +kernel) (by decide +kernel)
theorem q_1355 : Cond.instanceMethod yX11_marksOne ∈ zW := z_w 1355 (by decide +kernel) (by decide +kernel)
theorem q_1356 : Cond.code yX11_marksOne cX11_marksOne 4 (some .int) ∈ zW := z_w 1356 (by decide +kernel) (by decide +kernel)
theorem q_1358 : Cond.instanceMethod yX11_both ∈ zW := z_w 1358 (by decide +kernel) (by decide +kernel)
theorem q_1359 : Cond.selects RX11 yX11_both yX11_both ∈ zW := z_w 1359 (by decide +kernel) (by decide +kernel)
theorem q_1360 : Cond.code yX11_both cX11_both 6 (some .int) ∈ zW := z_w 1360 (by decide +kernel) (by decide +kernel)
theorem q_1361 : Cond.methodLink RX11 308 yX11_marksOther ∈ zW := z_w 1361 (by decide +kernel) (by decide +kernel)
theorem q_1363 : Cond.instanceMethod yX11_marksOther ∈ zW := z_w 1363 (by decide +kernel) (by decide +kernel)
theorem q_1364 : Cond.code yX11_marksOther cX11_marksOther 3 none ∈ zW := z_w 1364 (by decide +kernel) (by decide +kernel)
theorem q_1366 : Cond.instanceMethod yX11_laid ∈ zW := z_w 1366 (by decide +kernel) (by decide +kernel)
theorem q_1367 : Cond.selects RX11 yX11_laid yX11_laid ∈ zW := z_w 1367 (by decide +kernel) (by decide +kernel)
theorem q_1368 : Cond.code yX11_laid cX11_laid 5 (some .int) ∈ zW := z_w 1368 (by decide +kernel) (by decide +kernel)
theorem q_1370 : Cond.instanceMethod yX11_ravine ∈ zW := z_w 1370 (by decide +kernel) (by decide +kernel)
theorem q_1371 : Cond.selects RX11 yX11_ravine yX11_ravine ∈ zW := z_w 1371 (by decide +kernel) (by decide +kernel)
theorem q_1372 : Cond.code yX11_ravine cX11_ravine 6 (some .int) ∈ zW := z_w 1372 (by decide +kernel) (by decide +kernel)
theorem q_1374 : Cond.instanceMethod yX11_steps ∈ zW := z_w 1374 (by decide +kernel) (by decide +kernel)
theorem q_1375 : Cond.selects RX11 yX11_steps yX11_steps ∈ zW := z_w 1375 (by decide +kernel) (by decide +kernel)
theorem q_1376 : Cond.code yX11_steps cX11_steps 3 (some .int) ∈ zW := z_w 1376 (by decide +kernel) (by decide +kernel)
theorem q_1377 : Cond.methodLink RX11 325 yX11_spreads ∈ zW := z_w 1377 (by decide +kernel) (by decide +kernel)
theorem q_1379 : Cond.instanceMethod yX11_spreads ∈ zW := z_w 1379 (by decide +kernel) (by decide +kernel)
theorem q_1380 : Cond.code yX11_spreads cX11_spreads 5 none ∈ zW := z_w 1380 (by decide +kernel) (by decide +kernel)
theorem q_1381 : Cond.constant RX11 317 (1000000000) ∈ zW := z_w 1381 (by decide +kernel) (by decide +kernel)
theorem q_1382 : Cond.methodLink RX11 318 yX11_cost ∈ zW := z_w 1382 (by decide +kernel) (by decide +kernel)
theorem q_1384 : Cond.instanceMethod yX11_cost ∈ zW := z_w 1384 (by decide +kernel) (by decide +kernel)
theorem q_1385 : Cond.code yX11_cost cX11_cost 6 (some .int) ∈ zW := z_w 1385 (by decide +kernel) (by decide +kernel)
theorem q_1386 : Cond.methodLink RX11 321 yX11_tries ∈ zW := z_w 1386 (by decide +kernel) (by decide +kernel)
theorem q_1388 : Cond.instanceMethod yX11_tries ∈ zW := z_w 1388 (by decide +kernel) (by decide +kernel)
theorem q_1389 : Cond.code yX11_tries cX11_tries 4 none ∈ zW := z_w 1389 (by decide +kernel) (by decide +kernel)
theorem q_1391 : Cond.instanceMethod yX11_person ∈ zW := z_w 1391 (by decide +kernel) (by decide +kernel)
theorem q_1392 : Cond.selects RX11 yX11_person yX11_person ∈ zW := z_w 1392 (by decide +kernel) (by decide +kernel)
theorem q_1393 : Cond.code yX11_person cX11_person 3 (some .int) ∈ zW := z_w 1393 (by decide +kernel) (by decide +kernel)
theorem q_1395 : Cond.instanceMethod yX11_moves ∈ zW := z_w 1395 (by decide +kernel) (by decide +kernel)
theorem q_1396 : Cond.selects RX11 yX11_moves yX11_moves ∈ zW := z_w 1396 (by decide +kernel) (by decide +kernel)
theorem q_1397 : Cond.code yX11_moves cX11_moves 4 (some .int) ∈ zW := z_w 1397 (by decide +kernel) (by decide +kernel)
theorem q_1398 : Cond.methodLink RX11 331 yX11_isPerson ∈ zW := z_w 1398 (by decide +kernel) (by decide +kernel)
theorem q_1400 : Cond.instanceMethod yX11_isPerson ∈ zW := z_w 1400 (by decide +kernel) (by decide +kernel)
theorem q_1401 : Cond.code yX11_isPerson cX11_isPerson 2 (some .boolean) ∈ zW := z_w 1401 (by decide +kernel) (by decide +kernel)
theorem q_1403 : Cond.instanceMethod yX11_personTold ∈ zW := z_w 1403 (by decide +kernel) (by decide +kernel)
theorem q_1404 : Cond.selects RX11 yX11_personTold yX11_personTold ∈ zW := z_w 1404 (by decide +kernel) (by decide +kernel)
theorem q_1405 : Cond.code yX11_personTold cX11_personTold 3 (some .int) ∈ zW := z_w 1405 (by decide +kernel) (by decide +kernel)
theorem q_1406 : Cond.methodLink RX11 334 yX11_isOut ∈ zW := z_w 1406 (by decide +kernel) (by decide +kernel)
theorem q_1408 : Cond.instanceMethod yX11_isOut ∈ zW := z_w 1408 (by decide +kernel) (by decide +kernel)
theorem q_1409 : Cond.code yX11_isOut cX11_isOut 2 (some .boolean) ∈ zW := z_w 1409 (by decide +kernel) (by decide +kernel)
theorem q_1411 : Cond.instanceMethod yX11_well ∈ zW := z_w 1411 (by decide +kernel) (by decide +kernel)
theorem q_1412 : Cond.selects RX11 yX11_well yX11_well ∈ zW := z_w 1412 (by decide +kernel) (by decide +kernel)
theorem q_1413 : Cond.code yX11_well cX11_well 2 (some .int) ∈ zW := z_w 1413 (by decide +kernel) (by decide +kernel)
theorem q_1415 : Cond.instanceMethod yX11_may ∈ zW := z_w 1415 (by decide +kernel) (by decide +kernel)
theorem q_1416 : Cond.selects RX11 yX11_may yX11_may ∈ zW := z_w 1416 (by decide +kernel) (by decide +kernel)
theorem q_1417 : Cond.code yX11_may cX11_may 4 (some .int) ∈ zW := z_w 1417 (by decide +kernel) (by decide +kernel)
theorem q_1418 : Cond.methodLink RX11 340 yX11_why ∈ zW := z_w 1418 (by decide +kernel) (by decide +kernel)
theorem q_1420 : Cond.instanceMethod yX11_why ∈ zW := z_w 1420 (by decide +kernel) (by decide +kernel)
theorem q_1421 : Cond.code yX11_why cX11_why 4 (some .int) ∈ zW := z_w 1421 (by decide +kernel) (by decide +kernel)
theorem q_1423 : Cond.instanceMethod yX11_wells ∈ zW := z_w 1423 (by decide +kernel) (by decide +kernel)
theorem q_1424 : Cond.selects RX11 yX11_wells yX11_wells ∈ zW := z_w 1424 (by decide +kernel) (by decide +kernel)
theorem q_1425 : Cond.code yX11_wells cX11_wells 5 (some .int) ∈ zW := z_w 1425 (by decide +kernel) (by decide +kernel)
theorem q_1427 : Cond.instanceMethod yX11_who ∈ zW := z_w 1427 (by decide +kernel) (by decide +kernel)
theorem q_1428 : Cond.selects RX11 yX11_who yX11_who ∈ zW := z_w 1428 (by decide +kernel) (by decide +kernel)
theorem q_1429 : Cond.code yX11_who cX11_who 5 (some .int) ∈ zW := z_w 1429 (by decide +kernel) (by decide +kernel)
theorem q_1431 : Cond.instanceMethod yX11_meet ∈ zW := z_w 1431 (by decide +kernel) (by decide +kernel)
theorem q_1432 : Cond.selects RX11 yX11_meet yX11_meet ∈ zW := z_w 1432 (by decide +kernel) (by decide +kernel)
theorem q_1433 : Cond.code yX11_meet cX11_meet 8 (some .int) ∈ zW := z_w 1433 (by decide +kernel) (by decide +kernel)
theorem q_1435 : Cond.instanceMethod yX11_shed ∈ zW := z_w 1435 (by decide +kernel) (by decide +kernel)
theorem q_1436 : Cond.selects RX11 yX11_shed yX11_shed ∈ zW := z_w 1436 (by decide +kernel) (by decide +kernel)
theorem q_1437 : Cond.code yX11_shed cX11_shed 6 (some .int) ∈ zW := z_w 1437 (by decide +kernel) (by decide +kernel)
theorem q_1438 : Cond.methodLink RX11 343 yX11_joins ∈ zW := z_w 1438 (by decide +kernel) (by decide +kernel)
theorem q_1440 : Cond.instanceMethod yX11_joins ∈ zW := z_w 1440 (by decide +kernel) (by decide +kernel)
theorem q_1441 : Cond.code yX11_joins cX11_joins 4 (some .boolean) ∈ zW := z_w 1441 (by decide +kernel) (by decide +kernel)
theorem q_1443 : Cond.instanceMethod yX11_bridge ∈ zW := z_w 1443 (by decide +kernel) (by decide +kernel)
theorem q_1444 : Cond.selects RX11 yX11_bridge yX11_bridge ∈ zW := z_w 1444 (by decide +kernel) (by decide +kernel)
theorem q_1445 : Cond.code yX11_bridge cX11_bridge 9 (some .int) ∈ zW := z_w 1445 (by decide +kernel) (by decide +kernel)
theorem q_1447 : Cond.instanceMethod yX11_count ∈ zW := z_w 1447 (by decide +kernel) (by decide +kernel)
theorem q_1448 : Cond.selects RX11 yX11_count yX11_count ∈ zW := z_w 1448 (by decide +kernel) (by decide +kernel)
theorem q_1449 : Cond.code yX11_count cX11_count 5 (some .int) ∈ zW := z_w 1449 (by decide +kernel) (by decide +kernel)
theorem q_1451 : Cond.instanceMethod yX11_image ∈ zW := z_w 1451 (by decide +kernel) (by decide +kernel)
theorem q_1452 : Cond.selects RX11 yX11_image yX11_image ∈ zW := z_w 1452 (by decide +kernel) (by decide +kernel)
theorem q_1453 : Cond.code yX11_image cX11_image 2 (some .int) ∈ zW := z_w 1453 (by decide +kernel) (by decide +kernel)
theorem q_1455 : Cond.instanceMethod yX11_back ∈ zW := z_w 1455 (by decide +kernel) (by decide +kernel)
theorem q_1456 : Cond.selects RX11 yX11_back yX11_back ∈ zW := z_w 1456 (by decide +kernel) (by decide +kernel)
theorem q_1457 : Cond.code yX11_back cX11_back 2 (some .int) ∈ zW := z_w 1457 (by decide +kernel) (by decide +kernel)
theorem q_1459 : Cond.instanceMethod yX11_sheet ∈ zW := z_w 1459 (by decide +kernel) (by decide +kernel)
theorem q_1460 : Cond.selects RX11 yX11_sheet yX11_sheet ∈ zW := z_w 1460 (by decide +kernel) (by decide +kernel)
theorem q_1461 : Cond.code yX11_sheet cX11_sheet 5 (some .int) ∈ zW := z_w 1461 (by decide +kernel) (by decide +kernel)
theorem q_1463 : Cond.instanceMethod yX11_cell ∈ zW := z_w 1463 (by decide +kernel) (by decide +kernel)
theorem q_1464 : Cond.selects RX11 yX11_cell yX11_cell ∈ zW := z_w 1464 (by decide +kernel) (by decide +kernel)
theorem q_1465 : Cond.code yX11_cell cX11_cell 4 (some .int) ∈ zW := z_w 1465 (by decide +kernel) (by decide +kernel)
theorem q_1467 : Cond.instanceMethod yX11_copy ∈ zW := z_w 1467 (by decide +kernel) (by decide +kernel)
theorem q_1468 : Cond.selects RX11 yX11_copy yX11_copy ∈ zW := z_w 1468 (by decide +kernel) (by decide +kernel)
theorem q_1469 : Cond.code yX11_copy cX11_copy 10 (some .int) ∈ zW := z_w 1469 (by decide +kernel) (by decide +kernel)
theorem q_1471 : Cond.instanceMethod yX11_houses ∈ zW := z_w 1471 (by decide +kernel) (by decide +kernel)
theorem q_1472 : Cond.selects RX11 yX11_houses yX11_houses ∈ zW := z_w 1472 (by decide +kernel) (by decide +kernel)
theorem q_1473 : Cond.code yX11_houses cX11_houses 9 (some .int) ∈ zW := z_w 1473 (by decide +kernel) (by decide +kernel)
theorem q_1474 : Cond.methodLink RX11 362 yX11_house ∈ zW := z_w 1474 (by decide +kernel) (by decide +kernel)
theorem q_1476 : Cond.instanceMethod yX11_taken ∈ zW := z_w 1476 (by decide +kernel) (by decide +kernel)
theorem q_1477 : Cond.selects RX11 yX11_taken yX11_taken ∈ zW := z_w 1477 (by decide +kernel) (by decide +kernel)
theorem q_1478 : Cond.code yX11_taken cX11_taken 3 (some .int) ∈ zW := z_w 1478 (by decide +kernel) (by decide +kernel)
theorem q_1479 : Cond.methodLink RX11 365 yX11_isUnder ∈ zW := z_w 1479 (by decide +kernel) (by decide +kernel)
theorem q_1480 : Cond.static yX11_isUnder ∈ zW := z_w 1480 (by decide +kernel) (by decide +kernel)
theorem q_1481 : Cond.code yX11_isUnder cX11_isUnder 2 (some .boolean) ∈ zW := z_w 1481 (by decide +kernel) (by decide +kernel)
end
section
def zWords : Nat → Int64 := fun k => ([1852137842, 6709618, 418497262196, 1936286821, 1752527987, 114827921155443, 1819238758, 32195308547892595, 28530, 6385252, 7237492] : List Int64).getD k 0
theorem inX11 : ∀ w ∈ u_ws RX11 TX11 60, w ∈ zW := z_sub _ [1051, 1053, 1055, 1057, 1059, 1061, 1063, 1065, 1067, 1069, 1071, 1073, 1075, 1077, 1079, 1081, 1083, 1085, 1087, 1089, 1091, 1093, 1095, 1097, 1099, 1101, 1103, 1105, 1107, 1109, 1111, 1113, 1115, 1117, 1119, 1121, 1123, 1125, 1127, 1129, 1131, 1133, 1135, 1137, 1139, 1141, 1143, 1145, 1147, 1149, 1151, 1153, 1155, 1157, 1159, 1161, 1163, 1165, 1167, 1169] (by decide +kernel) (by decide +kernel)
def MW (d : zD) (h : Nat → Nat) (σ : zS) : va_W := [(h 0, .inr (11, [.int (σ.1 0), .ref (h 1), .ref (h 2), .int (σ.1 3), .ref (h 3), .ref (h 4), .ref (h 5), .int (σ.1 7), .int (σ.1 8), .ref (h 6), .ref (h 7), .ref (h 8), .ref (h 9), .ref (h 10), .int (σ.1 14), .ref (h 11), .ref (h 12), .int (σ.1 17), .ref (h 13), .ref (h 14), .int (σ.1 20), .ref (h 15), .ref (h 16), .int (σ.1 23), .int (σ.1 24), .int (σ.1 25), .int (σ.1 26), .int (σ.1 27), .int (σ.1 28), .int (σ.1 29), .ref (h 17), .ref (h 18), .ref (h 19), .ref (h 20), .ref (h 21), .int (σ.1 35), .int (σ.1 36), .int (σ.1 37), .int (σ.1 38), .ref (h 22), .ref (h 23), .int (σ.1 41), .int (σ.1 42), .int (σ.1 43), .ref (h 24), .ref (h 25), .int (σ.1 46), .int (σ.1 47), .int (σ.1 48), .int (σ.1 49), .int (σ.1 50), .int (σ.1 51), .ref (h 26), .ref (h 27), .ref (h 28), .ref (h 29), .ref (h 30), .int (σ.1 57), .int (σ.1 58), .ref (h 31)])), (h 1, .inl (d.2.1, 20, .inl (σ.2 1))), (h 2, .inl (d.2.1, 20, .inl (σ.2 2))), (h 3, .inl (d.2.1, 12, .inl (σ.2 3))), (h 4, .inl (d.2.1, 12, .inl (σ.2 4))), (h 5, .inl (d.2.1, 12, .inl (σ.2 5))), (h 6, .inl (d.2.1, 6, .inl (σ.2 6))), (h 7, .inl (d.2.1, 6, .inl (σ.2 7))), (h 8, .inl (d.2.1, 6, .inl (σ.2 8))), (h 9, .inl (d.2.1, 6, .inl (σ.2 9))), (h 10, .inl (d.2.1, 6, .inl (σ.2 10))), (h 11, .inl (d.2.1, 8, .inl (σ.2 11))), (h 12, .inl (d.2.1, 8, .inl (σ.2 12))), (h 13, .inl (d.2.1, 10, .inl (σ.2 13))), (h 14, .inl (d.2.1, 160, .inl (σ.2 14))), (h 15, .inl (d.2.1, 1200, .inl (σ.2 15))), (h 16, .inl (d.2.1, 24, .inl (σ.2 16))), (h 17, .inl (d.2.1, 20, .inl (σ.2 17))), (h 18, .inl (d.2.1, 8, .inl (σ.2 18))), (h 19, .inl (d.2.1, 4, .inl (σ.2 19))), (h 20, .inl (d.2.1, 4, .inl (σ.2 20))), (h 21, .inl (d.2.1, 160, .inl (σ.2 21))), (h 22, .inl (d.2.2.2.1, 11, .inr (.inl zWords))), (h 23, .inl (d.2.1, 200, .inl (σ.2 23))), (h 24, .inl (d.2.1, 200, .inl (σ.2 24))), (h 25, .inl (d.2.1, 6, .inl (σ.2 25))), (h 26, .inl (d.2.2.1, 1600, .inl (σ.2 26))), (h 27, .inl (d.2.2.1, 1600, .inl (σ.2 27))), (h 28, .inl (d.2.1, 1600, .inl (σ.2 28))), (h 29, .inl (d.2.1, 1600, .inl (σ.2 29))), (h 30, .inl (d.2.2.1, 1600, .inl (σ.2 30))), (h 31, .inl (d.2.1, 1600, .inl (σ.2 31)))]
theorem mg_0_0 {l : Launch} {d : zD} {F : zF} {k n : Nat} {lv : List (Option Value)} {pc : Nat} {st : List Value} {own : String} {cc : ByteArray} {nL fr lo : Nat} {h : Nat → Nat} {σ : zS} {idx : Nat} (pc' : Nat) (C : zOk d F own cc nL fr lo) (hd : decode cc pc = .ok (.getfield idx, 3)) (hp : pc + 3 = pc') (hq : Cond.fieldLink own idx RX11 "houses" "I" ∈ zW) (K : V l d F k n (MW d h σ) lv pc' (.int (σ.1 0) :: st)) : V l d F k n (MW d h σ) lv pc (.ref (h 0) :: st) := zr_get 0 inX11 rfl rfl 0 (by decide) rfl rfl hq pc' C hd hp K
theorem mp_0_0 {l : Launch} {d : zD} {F : zF} {k n : Nat} {lv : List (Option Value)} {pc : Nat} {st : List Value} {own : String} {cc : ByteArray} {nL fr lo : Nat} {h : Nat → Nat} {σ : zS} {idx : Nat} {x : Int32} {β : Type} {f : zS → Option β} {out : β} (pc' : Nat) (C : zOk d F own cc nL fr lo) (hd : decode cc pc = .ok (.putfield idx, 3)) (hp : pc + 3 = pc') (hq : Cond.fieldLink own idx RX11 "houses" "I" ∈ zW) (hf : zlt (zsg σ 0 x) f = some out) (K : ∀ σ', f σ' = some out → V l d F k n (MW d h σ') lv pc' st) : V l d F k n (MW d h σ) lv pc (.int x :: .ref (h 0) :: st) := zr_put 0 inX11 tyX11 tyX11_ok nmX11 rfl rfl 0 (by decide) rfl rfl rfl rfl rfl (Nat.le_of_ble_eq_true rfl) hq rfl pc' C hd hp (K (zsg σ 0 x) hf)
theorem mg_0_1 {l : Launch} {d : zD} {F : zF} {k n : Nat} {lv : List (Option Value)} {pc : Nat} {st : List Value} {own : String} {cc : ByteArray} {nL fr lo : Nat} {h : Nat → Nat} {σ : zS} {idx : Nat} (pc' : Nat) (C : zOk d F own cc nL fr lo) (hd : decode cc pc = .ok (.getfield idx, 3)) (hp : pc + 3 = pc') (hq : Cond.fieldLink own idx RX11 "place" "[I" ∈ zW) (K : V l d F k n (MW d h σ) lv pc' (.ref (h 1) :: st)) : V l d F k n (MW d h σ) lv pc (.ref (h 0) :: st) := zr_get 0 inX11 rfl rfl 1 (by decide) rfl rfl hq pc' C hd hp K
theorem mg_0_2 {l : Launch} {d : zD} {F : zF} {k n : Nat} {lv : List (Option Value)} {pc : Nat} {st : List Value} {own : String} {cc : ByteArray} {nL fr lo : Nat} {h : Nat → Nat} {σ : zS} {idx : Nat} (pc' : Nat) (C : zOk d F own cc nL fr lo) (hd : decode cc pc = .ok (.getfield idx, 3)) (hp : pc + 3 = pc') (hq : Cond.fieldLink own idx RX11 "isHut" "[I" ∈ zW) (K : V l d F k n (MW d h σ) lv pc' (.ref (h 2) :: st)) : V l d F k n (MW d h σ) lv pc (.ref (h 0) :: st) := zr_get 0 inX11 rfl rfl 2 (by decide) rfl rfl hq pc' C hd hp K
theorem mg_0_3 {l : Launch} {d : zD} {F : zF} {k n : Nat} {lv : List (Option Value)} {pc : Nat} {st : List Value} {own : String} {cc : ByteArray} {nL fr lo : Nat} {h : Nat → Nat} {σ : zS} {idx : Nat} (pc' : Nat) (C : zOk d F own cc nL fr lo) (hd : decode cc pc = .ok (.getfield idx, 3)) (hp : pc + 3 = pc') (hq : Cond.fieldLink own idx RX11 "shapes" "I" ∈ zW) (K : V l d F k n (MW d h σ) lv pc' (.int (σ.1 3) :: st)) : V l d F k n (MW d h σ) lv pc (.ref (h 0) :: st) := zr_get 0 inX11 rfl rfl 3 (by decide) rfl rfl hq pc' C hd hp K
theorem mp_0_3 {l : Launch} {d : zD} {F : zF} {k n : Nat} {lv : List (Option Value)} {pc : Nat} {st : List Value} {own : String} {cc : ByteArray} {nL fr lo : Nat} {h : Nat → Nat} {σ : zS} {idx : Nat} {x : Int32} {β : Type} {f : zS → Option β} {out : β} (pc' : Nat) (C : zOk d F own cc nL fr lo) (hd : decode cc pc = .ok (.putfield idx, 3)) (hp : pc + 3 = pc') (hq : Cond.fieldLink own idx RX11 "shapes" "I" ∈ zW) (hf : zlt (zsg σ 3 x) f = some out) (K : ∀ σ', f σ' = some out → V l d F k n (MW d h σ') lv pc' st) : V l d F k n (MW d h σ) lv pc (.int x :: .ref (h 0) :: st) := zr_put 0 inX11 tyX11 tyX11_ok nmX11 rfl rfl 3 (by decide) rfl rfl rfl rfl rfl (Nat.le_of_ble_eq_true rfl) hq rfl pc' C hd hp (K (zsg σ 3 x) hf)
theorem mg_0_4 {l : Launch} {d : zD} {F : zF} {k n : Nat} {lv : List (Option Value)} {pc : Nat} {st : List Value} {own : String} {cc : ByteArray} {nL fr lo : Nat} {h : Nat → Nat} {σ : zS} {idx : Nat} (pc' : Nat) (C : zOk d F own cc nL fr lo) (hd : decode cc pc = .ok (.getfield idx, 3)) (hp : pc + 3 = pc') (hq : Cond.fieldLink own idx RX11 "kind" "[I" ∈ zW) (K : V l d F k n (MW d h σ) lv pc' (.ref (h 3) :: st)) : V l d F k n (MW d h σ) lv pc (.ref (h 0) :: st) := zr_get 0 inX11 rfl rfl 4 (by decide) rfl rfl hq pc' C hd hp K
theorem mg_0_5 {l : Launch} {d : zD} {F : zF} {k n : Nat} {lv : List (Option Value)} {pc : Nat} {st : List Value} {own : String} {cc : ByteArray} {nL fr lo : Nat} {h : Nat → Nat} {σ : zS} {idx : Nat} (pc' : Nat) (C : zOk d F own cc nL fr lo) (hd : decode cc pc = .ok (.getfield idx, 3)) (hp : pc + 3 = pc') (hq : Cond.fieldLink own idx RX11 "houseOf" "[I" ∈ zW) (K : V l d F k n (MW d h σ) lv pc' (.ref (h 4) :: st)) : V l d F k n (MW d h σ) lv pc (.ref (h 0) :: st) := zr_get 0 inX11 rfl rfl 5 (by decide) rfl rfl hq pc' C hd hp K
theorem mg_0_6 {l : Launch} {d : zD} {F : zF} {k n : Nat} {lv : List (Option Value)} {pc : Nat} {st : List Value} {own : String} {cc : ByteArray} {nL fr lo : Nat} {h : Nat → Nat} {σ : zS} {idx : Nat} (pc' : Nat) (C : zOk d F own cc nL fr lo) (hd : decode cc pc = .ok (.getfield idx, 3)) (hp : pc + 3 = pc') (hq : Cond.fieldLink own idx RX11 "more" "[I" ∈ zW) (K : V l d F k n (MW d h σ) lv pc' (.ref (h 5) :: st)) : V l d F k n (MW d h σ) lv pc (.ref (h 0) :: st) := zr_get 0 inX11 rfl rfl 6 (by decide) rfl rfl hq pc' C hd hp K
theorem mg_0_7 {l : Launch} {d : zD} {F : zF} {k n : Nat} {lv : List (Option Value)} {pc : Nat} {st : List Value} {own : String} {cc : ByteArray} {nL fr lo : Nat} {h : Nat → Nat} {σ : zS} {idx : Nat} (pc' : Nat) (C : zOk d F own cc nL fr lo) (hd : decode cc pc = .ok (.getfield idx, 3)) (hp : pc + 3 = pc') (hq : Cond.fieldLink own idx RX11 "loaf" "I" ∈ zW) (K : V l d F k n (MW d h σ) lv pc' (.int (σ.1 7) :: st)) : V l d F k n (MW d h σ) lv pc (.ref (h 0) :: st) := zr_get 0 inX11 rfl rfl 7 (by decide) rfl rfl hq pc' C hd hp K
theorem mp_0_7 {l : Launch} {d : zD} {F : zF} {k n : Nat} {lv : List (Option Value)} {pc : Nat} {st : List Value} {own : String} {cc : ByteArray} {nL fr lo : Nat} {h : Nat → Nat} {σ : zS} {idx : Nat} {x : Int32} {β : Type} {f : zS → Option β} {out : β} (pc' : Nat) (C : zOk d F own cc nL fr lo) (hd : decode cc pc = .ok (.putfield idx, 3)) (hp : pc + 3 = pc') (hq : Cond.fieldLink own idx RX11 "loaf" "I" ∈ zW) (hf : zlt (zsg σ 7 x) f = some out) (K : ∀ σ', f σ' = some out → V l d F k n (MW d h σ') lv pc' st) : V l d F k n (MW d h σ) lv pc (.int x :: .ref (h 0) :: st) := zr_put 0 inX11 tyX11 tyX11_ok nmX11 rfl rfl 7 (by decide) rfl rfl rfl rfl rfl (Nat.le_of_ble_eq_true rfl) hq rfl pc' C hd hp (K (zsg σ 7 x) hf)
theorem mg_0_8 {l : Launch} {d : zD} {F : zF} {k n : Nat} {lv : List (Option Value)} {pc : Nat} {st : List Value} {own : String} {cc : ByteArray} {nL fr lo : Nat} {h : Nat → Nat} {σ : zS} {idx : Nat} (pc' : Nat) (C : zOk d F own cc nL fr lo) (hd : decode cc pc = .ok (.getfield idx, 3)) (hp : pc + 3 = pc') (hq : Cond.fieldLink own idx RX11 "ravines" "I" ∈ zW) (K : V l d F k n (MW d h σ) lv pc' (.int (σ.1 8) :: st)) : V l d F k n (MW d h σ) lv pc (.ref (h 0) :: st) := zr_get 0 inX11 rfl rfl 8 (by decide) rfl rfl hq pc' C hd hp K
theorem mp_0_8 {l : Launch} {d : zD} {F : zF} {k n : Nat} {lv : List (Option Value)} {pc : Nat} {st : List Value} {own : String} {cc : ByteArray} {nL fr lo : Nat} {h : Nat → Nat} {σ : zS} {idx : Nat} {x : Int32} {β : Type} {f : zS → Option β} {out : β} (pc' : Nat) (C : zOk d F own cc nL fr lo) (hd : decode cc pc = .ok (.putfield idx, 3)) (hp : pc + 3 = pc') (hq : Cond.fieldLink own idx RX11 "ravines" "I" ∈ zW) (hf : zlt (zsg σ 8 x) f = some out) (K : ∀ σ', f σ' = some out → V l d F k n (MW d h σ') lv pc' st) : V l d F k n (MW d h σ) lv pc (.int x :: .ref (h 0) :: st) := zr_put 0 inX11 tyX11 tyX11_ok nmX11 rfl rfl 8 (by decide) rfl rfl rfl rfl rfl (Nat.le_of_ble_eq_true rfl) hq rfl pc' C hd hp (K (zsg σ 8 x) hf)
theorem mg_0_9 {l : Launch} {d : zD} {F : zF} {k n : Nat} {lv : List (Option Value)} {pc : Nat} {st : List Value} {own : String} {cc : ByteArray} {nL fr lo : Nat} {h : Nat → Nat} {σ : zS} {idx : Nat} (pc' : Nat) (C : zOk d F own cc nL fr lo) (hd : decode cc pc = .ok (.getfield idx, 3)) (hp : pc + 3 = pc') (hq : Cond.fieldLink own idx RX11 "ravineWay" "[I" ∈ zW) (K : V l d F k n (MW d h σ) lv pc' (.ref (h 6) :: st)) : V l d F k n (MW d h σ) lv pc (.ref (h 0) :: st) := zr_get 0 inX11 rfl rfl 9 (by decide) rfl rfl hq pc' C hd hp K
theorem mg_0_10 {l : Launch} {d : zD} {F : zF} {k n : Nat} {lv : List (Option Value)} {pc : Nat} {st : List Value} {own : String} {cc : ByteArray} {nL fr lo : Nat} {h : Nat → Nat} {σ : zS} {idx : Nat} (pc' : Nat) (C : zOk d F own cc nL fr lo) (hd : decode cc pc = .ok (.getfield idx, 3)) (hp : pc + 3 = pc') (hq : Cond.fieldLink own idx RX11 "ravineAt" "[I" ∈ zW) (K : V l d F k n (MW d h σ) lv pc' (.ref (h 7) :: st)) : V l d F k n (MW d h σ) lv pc (.ref (h 0) :: st) := zr_get 0 inX11 rfl rfl 10 (by decide) rfl rfl hq pc' C hd hp K
theorem mg_0_11 {l : Launch} {d : zD} {F : zF} {k n : Nat} {lv : List (Option Value)} {pc : Nat} {st : List Value} {own : String} {cc : ByteArray} {nL fr lo : Nat} {h : Nat → Nat} {σ : zS} {idx : Nat} (pc' : Nat) (C : zOk d F own cc nL fr lo) (hd : decode cc pc = .ok (.getfield idx, 3)) (hp : pc + 3 = pc') (hq : Cond.fieldLink own idx RX11 "ravineFrom" "[I" ∈ zW) (K : V l d F k n (MW d h σ) lv pc' (.ref (h 8) :: st)) : V l d F k n (MW d h σ) lv pc (.ref (h 0) :: st) := zr_get 0 inX11 rfl rfl 11 (by decide) rfl rfl hq pc' C hd hp K
theorem mg_0_12 {l : Launch} {d : zD} {F : zF} {k n : Nat} {lv : List (Option Value)} {pc : Nat} {st : List Value} {own : String} {cc : ByteArray} {nL fr lo : Nat} {h : Nat → Nat} {σ : zS} {idx : Nat} (pc' : Nat) (C : zOk d F own cc nL fr lo) (hd : decode cc pc = .ok (.getfield idx, 3)) (hp : pc + 3 = pc') (hq : Cond.fieldLink own idx RX11 "ravineTo" "[I" ∈ zW) (K : V l d F k n (MW d h σ) lv pc' (.ref (h 9) :: st)) : V l d F k n (MW d h σ) lv pc (.ref (h 0) :: st) := zr_get 0 inX11 rfl rfl 12 (by decide) rfl rfl hq pc' C hd hp K
theorem mg_0_13 {l : Launch} {d : zD} {F : zF} {k n : Nat} {lv : List (Option Value)} {pc : Nat} {st : List Value} {own : String} {cc : ByteArray} {nL fr lo : Nat} {h : Nat → Nat} {σ : zS} {idx : Nat} (pc' : Nat) (C : zOk d F own cc nL fr lo) (hd : decode cc pc = .ok (.getfield idx, 3)) (hp : pc + 3 = pc') (hq : Cond.fieldLink own idx RX11 "ravineWide" "[I" ∈ zW) (K : V l d F k n (MW d h σ) lv pc' (.ref (h 10) :: st)) : V l d F k n (MW d h σ) lv pc (.ref (h 0) :: st) := zr_get 0 inX11 rfl rfl 13 (by decide) rfl rfl hq pc' C hd hp K
theorem mg_0_14 {l : Launch} {d : zD} {F : zF} {k n : Nat} {lv : List (Option Value)} {pc : Nat} {st : List Value} {own : String} {cc : ByteArray} {nL fr lo : Nat} {h : Nat → Nat} {σ : zS} {idx : Nat} (pc' : Nat) (C : zOk d F own cc nL fr lo) (hd : decode cc pc = .ok (.getfield idx, 3)) (hp : pc + 3 = pc') (hq : Cond.fieldLink own idx RX11 "people" "I" ∈ zW) (K : V l d F k n (MW d h σ) lv pc' (.int (σ.1 14) :: st)) : V l d F k n (MW d h σ) lv pc (.ref (h 0) :: st) := zr_get 0 inX11 rfl rfl 14 (by decide) rfl rfl hq pc' C hd hp K
theorem mp_0_14 {l : Launch} {d : zD} {F : zF} {k n : Nat} {lv : List (Option Value)} {pc : Nat} {st : List Value} {own : String} {cc : ByteArray} {nL fr lo : Nat} {h : Nat → Nat} {σ : zS} {idx : Nat} {x : Int32} {β : Type} {f : zS → Option β} {out : β} (pc' : Nat) (C : zOk d F own cc nL fr lo) (hd : decode cc pc = .ok (.putfield idx, 3)) (hp : pc + 3 = pc') (hq : Cond.fieldLink own idx RX11 "people" "I" ∈ zW) (hf : zlt (zsg σ 14 x) f = some out) (K : ∀ σ', f σ' = some out → V l d F k n (MW d h σ') lv pc' st) : V l d F k n (MW d h σ) lv pc (.int x :: .ref (h 0) :: st) := zr_put 0 inX11 tyX11 tyX11_ok nmX11 rfl rfl 14 (by decide) rfl rfl rfl rfl rfl (Nat.le_of_ble_eq_true rfl) hq rfl pc' C hd hp (K (zsg σ 14 x) hf)
theorem mg_0_15 {l : Launch} {d : zD} {F : zF} {k n : Nat} {lv : List (Option Value)} {pc : Nat} {st : List Value} {own : String} {cc : ByteArray} {nL fr lo : Nat} {h : Nat → Nat} {σ : zS} {idx : Nat} (pc' : Nat) (C : zOk d F own cc nL fr lo) (hd : decode cc pc = .ok (.getfield idx, 3)) (hp : pc + 3 = pc') (hq : Cond.fieldLink own idx RX11 "personAt" "[I" ∈ zW) (K : V l d F k n (MW d h σ) lv pc' (.ref (h 11) :: st)) : V l d F k n (MW d h σ) lv pc (.ref (h 0) :: st) := zr_get 0 inX11 rfl rfl 15 (by decide) rfl rfl hq pc' C hd hp K
theorem mg_0_16 {l : Launch} {d : zD} {F : zF} {k n : Nat} {lv : List (Option Value)} {pc : Nat} {st : List Value} {own : String} {cc : ByteArray} {nL fr lo : Nat} {h : Nat → Nat} {σ : zS} {idx : Nat} (pc' : Nat) (C : zOk d F own cc nL fr lo) (hd : decode cc pc = .ok (.getfield idx, 3)) (hp : pc + 3 = pc') (hq : Cond.fieldLink own idx RX11 "bound" "[I" ∈ zW) (K : V l d F k n (MW d h σ) lv pc' (.ref (h 12) :: st)) : V l d F k n (MW d h σ) lv pc (.ref (h 0) :: st) := zr_get 0 inX11 rfl rfl 16 (by decide) rfl rfl hq pc' C hd hp K
theorem mg_0_17 {l : Launch} {d : zD} {F : zF} {k n : Nat} {lv : List (Option Value)} {pc : Nat} {st : List Value} {own : String} {cc : ByteArray} {nL fr lo : Nat} {h : Nat → Nat} {σ : zS} {idx : Nat} (pc' : Nat) (C : zOk d F own cc nL fr lo) (hd : decode cc pc = .ok (.getfield idx, 3)) (hp : pc + 3 = pc') (hq : Cond.fieldLink own idx RX11 "wells" "I" ∈ zW) (K : V l d F k n (MW d h σ) lv pc' (.int (σ.1 17) :: st)) : V l d F k n (MW d h σ) lv pc (.ref (h 0) :: st) := zr_get 0 inX11 rfl rfl 17 (by decide) rfl rfl hq pc' C hd hp K
theorem mp_0_17 {l : Launch} {d : zD} {F : zF} {k n : Nat} {lv : List (Option Value)} {pc : Nat} {st : List Value} {own : String} {cc : ByteArray} {nL fr lo : Nat} {h : Nat → Nat} {σ : zS} {idx : Nat} {x : Int32} {β : Type} {f : zS → Option β} {out : β} (pc' : Nat) (C : zOk d F own cc nL fr lo) (hd : decode cc pc = .ok (.putfield idx, 3)) (hp : pc + 3 = pc') (hq : Cond.fieldLink own idx RX11 "wells" "I" ∈ zW) (hf : zlt (zsg σ 17 x) f = some out) (K : ∀ σ', f σ' = some out → V l d F k n (MW d h σ') lv pc' st) : V l d F k n (MW d h σ) lv pc (.int x :: .ref (h 0) :: st) := zr_put 0 inX11 tyX11 tyX11_ok nmX11 rfl rfl 17 (by decide) rfl rfl rfl rfl rfl (Nat.le_of_ble_eq_true rfl) hq rfl pc' C hd hp (K (zsg σ 17 x) hf)
theorem mg_0_18 {l : Launch} {d : zD} {F : zF} {k n : Nat} {lv : List (Option Value)} {pc : Nat} {st : List Value} {own : String} {cc : ByteArray} {nL fr lo : Nat} {h : Nat → Nat} {σ : zS} {idx : Nat} (pc' : Nat) (C : zOk d F own cc nL fr lo) (hd : decode cc pc = .ok (.getfield idx, 3)) (hp : pc + 3 = pc') (hq : Cond.fieldLink own idx RX11 "wellAt" "[I" ∈ zW) (K : V l d F k n (MW d h σ) lv pc' (.ref (h 13) :: st)) : V l d F k n (MW d h σ) lv pc (.ref (h 0) :: st) := zr_get 0 inX11 rfl rfl 18 (by decide) rfl rfl hq pc' C hd hp K
theorem mg_0_19 {l : Launch} {d : zD} {F : zF} {k n : Nat} {lv : List (Option Value)} {pc : Nat} {st : List Value} {own : String} {cc : ByteArray} {nL fr lo : Nat} {h : Nat → Nat} {σ : zS} {idx : Nat} (pc' : Nat) (C : zOk d F own cc nL fr lo) (hd : decode cc pc = .ok (.getfield idx, 3)) (hp : pc + 3 = pc') (hq : Cond.fieldLink own idx RX11 "tape" "[I" ∈ zW) (K : V l d F k n (MW d h σ) lv pc' (.ref (h 14) :: st)) : V l d F k n (MW d h σ) lv pc (.ref (h 0) :: st) := zr_get 0 inX11 rfl rfl 19 (by decide) rfl rfl hq pc' C hd hp K
theorem mg_0_20 {l : Launch} {d : zD} {F : zF} {k n : Nat} {lv : List (Option Value)} {pc : Nat} {st : List Value} {own : String} {cc : ByteArray} {nL fr lo : Nat} {h : Nat → Nat} {σ : zS} {idx : Nat} (pc' : Nat) (C : zOk d F own cc nL fr lo) (hd : decode cc pc = .ok (.getfield idx, 3)) (hp : pc + 3 = pc') (hq : Cond.fieldLink own idx RX11 "taped" "I" ∈ zW) (K : V l d F k n (MW d h σ) lv pc' (.int (σ.1 20) :: st)) : V l d F k n (MW d h σ) lv pc (.ref (h 0) :: st) := zr_get 0 inX11 rfl rfl 20 (by decide) rfl rfl hq pc' C hd hp K
theorem mp_0_20 {l : Launch} {d : zD} {F : zF} {k n : Nat} {lv : List (Option Value)} {pc : Nat} {st : List Value} {own : String} {cc : ByteArray} {nL fr lo : Nat} {h : Nat → Nat} {σ : zS} {idx : Nat} {x : Int32} {β : Type} {f : zS → Option β} {out : β} (pc' : Nat) (C : zOk d F own cc nL fr lo) (hd : decode cc pc = .ok (.putfield idx, 3)) (hp : pc + 3 = pc') (hq : Cond.fieldLink own idx RX11 "taped" "I" ∈ zW) (hf : zlt (zsg σ 20 x) f = some out) (K : ∀ σ', f σ' = some out → V l d F k n (MW d h σ') lv pc' st) : V l d F k n (MW d h σ) lv pc (.int x :: .ref (h 0) :: st) := zr_put 0 inX11 tyX11 tyX11_ok nmX11 rfl rfl 20 (by decide) rfl rfl rfl rfl rfl (Nat.le_of_ble_eq_true rfl) hq rfl pc' C hd hp (K (zsg σ 20 x) hf)
theorem mg_0_21 {l : Launch} {d : zD} {F : zF} {k n : Nat} {lv : List (Option Value)} {pc : Nat} {st : List Value} {own : String} {cc : ByteArray} {nL fr lo : Nat} {h : Nat → Nat} {σ : zS} {idx : Nat} (pc' : Nat) (C : zOk d F own cc nL fr lo) (hd : decode cc pc = .ok (.getfield idx, 3)) (hp : pc + 3 = pc') (hq : Cond.fieldLink own idx RX11 "codes" "[I" ∈ zW) (K : V l d F k n (MW d h σ) lv pc' (.ref (h 15) :: st)) : V l d F k n (MW d h σ) lv pc (.ref (h 0) :: st) := zr_get 0 inX11 rfl rfl 21 (by decide) rfl rfl hq pc' C hd hp K
theorem mg_0_22 {l : Launch} {d : zD} {F : zF} {k n : Nat} {lv : List (Option Value)} {pc : Nat} {st : List Value} {own : String} {cc : ByteArray} {nL fr lo : Nat} {h : Nat → Nat} {σ : zS} {idx : Nat} (pc' : Nat) (C : zOk d F own cc nL fr lo) (hd : decode cc pc = .ok (.getfield idx, 3)) (hp : pc + 3 = pc') (hq : Cond.fieldLink own idx RX11 "starts" "[I" ∈ zW) (K : V l d F k n (MW d h σ) lv pc' (.ref (h 16) :: st)) : V l d F k n (MW d h σ) lv pc (.ref (h 0) :: st) := zr_get 0 inX11 rfl rfl 22 (by decide) rfl rfl hq pc' C hd hp K
theorem mg_0_23 {l : Launch} {d : zD} {F : zF} {k n : Nat} {lv : List (Option Value)} {pc : Nat} {st : List Value} {own : String} {cc : ByteArray} {nL fr lo : Nat} {h : Nat → Nat} {σ : zS} {idx : Nat} (pc' : Nat) (C : zOk d F own cc nL fr lo) (hd : decode cc pc = .ok (.getfield idx, 3)) (hp : pc + 3 = pc') (hq : Cond.fieldLink own idx RX11 "texts" "I" ∈ zW) (K : V l d F k n (MW d h σ) lv pc' (.int (σ.1 23) :: st)) : V l d F k n (MW d h σ) lv pc (.ref (h 0) :: st) := zr_get 0 inX11 rfl rfl 23 (by decide) rfl rfl hq pc' C hd hp K
theorem mp_0_23 {l : Launch} {d : zD} {F : zF} {k n : Nat} {lv : List (Option Value)} {pc : Nat} {st : List Value} {own : String} {cc : ByteArray} {nL fr lo : Nat} {h : Nat → Nat} {σ : zS} {idx : Nat} {x : Int32} {β : Type} {f : zS → Option β} {out : β} (pc' : Nat) (C : zOk d F own cc nL fr lo) (hd : decode cc pc = .ok (.putfield idx, 3)) (hp : pc + 3 = pc') (hq : Cond.fieldLink own idx RX11 "texts" "I" ∈ zW) (hf : zlt (zsg σ 23 x) f = some out) (K : ∀ σ', f σ' = some out → V l d F k n (MW d h σ') lv pc' st) : V l d F k n (MW d h σ) lv pc (.int x :: .ref (h 0) :: st) := zr_put 0 inX11 tyX11 tyX11_ok nmX11 rfl rfl 23 (by decide) rfl rfl rfl rfl rfl (Nat.le_of_ble_eq_true rfl) hq rfl pc' C hd hp (K (zsg σ 23 x) hf)
theorem mg_0_24 {l : Launch} {d : zD} {F : zF} {k n : Nat} {lv : List (Option Value)} {pc : Nat} {st : List Value} {own : String} {cc : ByteArray} {nL fr lo : Nat} {h : Nat → Nat} {σ : zS} {idx : Nat} (pc' : Nat) (C : zOk d F own cc nL fr lo) (hd : decode cc pc = .ok (.getfield idx, 3)) (hp : pc + 3 = pc') (hq : Cond.fieldLink own idx RX11 "rule" "I" ∈ zW) (K : V l d F k n (MW d h σ) lv pc' (.int (σ.1 24) :: st)) : V l d F k n (MW d h σ) lv pc (.ref (h 0) :: st) := zr_get 0 inX11 rfl rfl 24 (by decide) rfl rfl hq pc' C hd hp K
theorem mp_0_24 {l : Launch} {d : zD} {F : zF} {k n : Nat} {lv : List (Option Value)} {pc : Nat} {st : List Value} {own : String} {cc : ByteArray} {nL fr lo : Nat} {h : Nat → Nat} {σ : zS} {idx : Nat} {x : Int32} {β : Type} {f : zS → Option β} {out : β} (pc' : Nat) (C : zOk d F own cc nL fr lo) (hd : decode cc pc = .ok (.putfield idx, 3)) (hp : pc + 3 = pc') (hq : Cond.fieldLink own idx RX11 "rule" "I" ∈ zW) (hf : zlt (zsg σ 24 x) f = some out) (K : ∀ σ', f σ' = some out → V l d F k n (MW d h σ') lv pc' st) : V l d F k n (MW d h σ) lv pc (.int x :: .ref (h 0) :: st) := zr_put 0 inX11 tyX11 tyX11_ok nmX11 rfl rfl 24 (by decide) rfl rfl rfl rfl rfl (Nat.le_of_ble_eq_true rfl) hq rfl pc' C hd hp (K (zsg σ 24 x) hf)
theorem mg_0_25 {l : Launch} {d : zD} {F : zF} {k n : Nat} {lv : List (Option Value)} {pc : Nat} {st : List Value} {own : String} {cc : ByteArray} {nL fr lo : Nat} {h : Nat → Nat} {σ : zS} {idx : Nat} (pc' : Nat) (C : zOk d F own cc nL fr lo) (hd : decode cc pc = .ok (.getfield idx, 3)) (hp : pc + 3 = pc') (hq : Cond.fieldLink own idx RX11 "hasImage" "Z" ∈ zW) (K : V l d F k n (MW d h σ) lv pc' (.int (σ.1 25) :: st)) : V l d F k n (MW d h σ) lv pc (.ref (h 0) :: st) := zr_get 0 inX11 rfl rfl 25 (by decide) rfl rfl hq pc' C hd hp K
theorem mp_0_25 {l : Launch} {d : zD} {F : zF} {k n : Nat} {lv : List (Option Value)} {pc : Nat} {st : List Value} {own : String} {cc : ByteArray} {nL fr lo : Nat} {h : Nat → Nat} {σ : zS} {idx : Nat} {x : Int32} {β : Type} {f : zS → Option β} {out : β} (pc' : Nat) (C : zOk d F own cc nL fr lo) (hd : decode cc pc = .ok (.putfield idx, 3)) (hp : pc + 3 = pc') (hq : Cond.fieldLink own idx RX11 "hasImage" "Z" ∈ zW) (hz : narrow .boolean (.int x) = .int x) (hf : zlt (zsg σ 25 x) f = some out) (K : ∀ σ', f σ' = some out → V l d F k n (MW d h σ') lv pc' st) : V l d F k n (MW d h σ) lv pc (.int x :: .ref (h 0) :: st) := zr_put 0 inX11 tyX11 tyX11_ok nmX11 rfl rfl 25 (by decide) rfl rfl rfl hz (zfit hz) (Nat.le_of_ble_eq_true rfl) hq rfl pc' C hd hp (K (zsg σ 25 x) hf)
theorem mg_0_26 {l : Launch} {d : zD} {F : zF} {k n : Nat} {lv : List (Option Value)} {pc : Nat} {st : List Value} {own : String} {cc : ByteArray} {nL fr lo : Nat} {h : Nat → Nat} {σ : zS} {idx : Nat} (pc' : Nat) (C : zOk d F own cc nL fr lo) (hd : decode cc pc = .ok (.getfield idx, 3)) (hp : pc + 3 = pc') (hq : Cond.fieldLink own idx RX11 "imageHouses" "I" ∈ zW) (K : V l d F k n (MW d h σ) lv pc' (.int (σ.1 26) :: st)) : V l d F k n (MW d h σ) lv pc (.ref (h 0) :: st) := zr_get 0 inX11 rfl rfl 26 (by decide) rfl rfl hq pc' C hd hp K
theorem mp_0_26 {l : Launch} {d : zD} {F : zF} {k n : Nat} {lv : List (Option Value)} {pc : Nat} {st : List Value} {own : String} {cc : ByteArray} {nL fr lo : Nat} {h : Nat → Nat} {σ : zS} {idx : Nat} {x : Int32} {β : Type} {f : zS → Option β} {out : β} (pc' : Nat) (C : zOk d F own cc nL fr lo) (hd : decode cc pc = .ok (.putfield idx, 3)) (hp : pc + 3 = pc') (hq : Cond.fieldLink own idx RX11 "imageHouses" "I" ∈ zW) (hf : zlt (zsg σ 26 x) f = some out) (K : ∀ σ', f σ' = some out → V l d F k n (MW d h σ') lv pc' st) : V l d F k n (MW d h σ) lv pc (.int x :: .ref (h 0) :: st) := zr_put 0 inX11 tyX11 tyX11_ok nmX11 rfl rfl 26 (by decide) rfl rfl rfl rfl rfl (Nat.le_of_ble_eq_true rfl) hq rfl pc' C hd hp (K (zsg σ 26 x) hf)
theorem mg_0_27 {l : Launch} {d : zD} {F : zF} {k n : Nat} {lv : List (Option Value)} {pc : Nat} {st : List Value} {own : String} {cc : ByteArray} {nL fr lo : Nat} {h : Nat → Nat} {σ : zS} {idx : Nat} (pc' : Nat) (C : zOk d F own cc nL fr lo) (hd : decode cc pc = .ok (.getfield idx, 3)) (hp : pc + 3 = pc') (hq : Cond.fieldLink own idx RX11 "imagePeople" "I" ∈ zW) (K : V l d F k n (MW d h σ) lv pc' (.int (σ.1 27) :: st)) : V l d F k n (MW d h σ) lv pc (.ref (h 0) :: st) := zr_get 0 inX11 rfl rfl 27 (by decide) rfl rfl hq pc' C hd hp K
theorem mp_0_27 {l : Launch} {d : zD} {F : zF} {k n : Nat} {lv : List (Option Value)} {pc : Nat} {st : List Value} {own : String} {cc : ByteArray} {nL fr lo : Nat} {h : Nat → Nat} {σ : zS} {idx : Nat} {x : Int32} {β : Type} {f : zS → Option β} {out : β} (pc' : Nat) (C : zOk d F own cc nL fr lo) (hd : decode cc pc = .ok (.putfield idx, 3)) (hp : pc + 3 = pc') (hq : Cond.fieldLink own idx RX11 "imagePeople" "I" ∈ zW) (hf : zlt (zsg σ 27 x) f = some out) (K : ∀ σ', f σ' = some out → V l d F k n (MW d h σ') lv pc' st) : V l d F k n (MW d h σ) lv pc (.int x :: .ref (h 0) :: st) := zr_put 0 inX11 tyX11 tyX11_ok nmX11 rfl rfl 27 (by decide) rfl rfl rfl rfl rfl (Nat.le_of_ble_eq_true rfl) hq rfl pc' C hd hp (K (zsg σ 27 x) hf)
theorem mg_0_28 {l : Launch} {d : zD} {F : zF} {k n : Nat} {lv : List (Option Value)} {pc : Nat} {st : List Value} {own : String} {cc : ByteArray} {nL fr lo : Nat} {h : Nat → Nat} {σ : zS} {idx : Nat} (pc' : Nat) (C : zOk d F own cc nL fr lo) (hd : decode cc pc = .ok (.getfield idx, 3)) (hp : pc + 3 = pc') (hq : Cond.fieldLink own idx RX11 "imageLoaf" "I" ∈ zW) (K : V l d F k n (MW d h σ) lv pc' (.int (σ.1 28) :: st)) : V l d F k n (MW d h σ) lv pc (.ref (h 0) :: st) := zr_get 0 inX11 rfl rfl 28 (by decide) rfl rfl hq pc' C hd hp K
theorem mp_0_28 {l : Launch} {d : zD} {F : zF} {k n : Nat} {lv : List (Option Value)} {pc : Nat} {st : List Value} {own : String} {cc : ByteArray} {nL fr lo : Nat} {h : Nat → Nat} {σ : zS} {idx : Nat} {x : Int32} {β : Type} {f : zS → Option β} {out : β} (pc' : Nat) (C : zOk d F own cc nL fr lo) (hd : decode cc pc = .ok (.putfield idx, 3)) (hp : pc + 3 = pc') (hq : Cond.fieldLink own idx RX11 "imageLoaf" "I" ∈ zW) (hf : zlt (zsg σ 28 x) f = some out) (K : ∀ σ', f σ' = some out → V l d F k n (MW d h σ') lv pc' st) : V l d F k n (MW d h σ) lv pc (.int x :: .ref (h 0) :: st) := zr_put 0 inX11 tyX11 tyX11_ok nmX11 rfl rfl 28 (by decide) rfl rfl rfl rfl rfl (Nat.le_of_ble_eq_true rfl) hq rfl pc' C hd hp (K (zsg σ 28 x) hf)
theorem mg_0_29 {l : Launch} {d : zD} {F : zF} {k n : Nat} {lv : List (Option Value)} {pc : Nat} {st : List Value} {own : String} {cc : ByteArray} {nL fr lo : Nat} {h : Nat → Nat} {σ : zS} {idx : Nat} (pc' : Nat) (C : zOk d F own cc nL fr lo) (hd : decode cc pc = .ok (.getfield idx, 3)) (hp : pc + 3 = pc') (hq : Cond.fieldLink own idx RX11 "imageRule" "I" ∈ zW) (K : V l d F k n (MW d h σ) lv pc' (.int (σ.1 29) :: st)) : V l d F k n (MW d h σ) lv pc (.ref (h 0) :: st) := zr_get 0 inX11 rfl rfl 29 (by decide) rfl rfl hq pc' C hd hp K
theorem mp_0_29 {l : Launch} {d : zD} {F : zF} {k n : Nat} {lv : List (Option Value)} {pc : Nat} {st : List Value} {own : String} {cc : ByteArray} {nL fr lo : Nat} {h : Nat → Nat} {σ : zS} {idx : Nat} {x : Int32} {β : Type} {f : zS → Option β} {out : β} (pc' : Nat) (C : zOk d F own cc nL fr lo) (hd : decode cc pc = .ok (.putfield idx, 3)) (hp : pc + 3 = pc') (hq : Cond.fieldLink own idx RX11 "imageRule" "I" ∈ zW) (hf : zlt (zsg σ 29 x) f = some out) (K : ∀ σ', f σ' = some out → V l d F k n (MW d h σ') lv pc' st) : V l d F k n (MW d h σ) lv pc (.int x :: .ref (h 0) :: st) := zr_put 0 inX11 tyX11 tyX11_ok nmX11 rfl rfl 29 (by decide) rfl rfl rfl rfl rfl (Nat.le_of_ble_eq_true rfl) hq rfl pc' C hd hp (K (zsg σ 29 x) hf)
theorem mg_0_30 {l : Launch} {d : zD} {F : zF} {k n : Nat} {lv : List (Option Value)} {pc : Nat} {st : List Value} {own : String} {cc : ByteArray} {nL fr lo : Nat} {h : Nat → Nat} {σ : zS} {idx : Nat} (pc' : Nat) (C : zOk d F own cc nL fr lo) (hd : decode cc pc = .ok (.getfield idx, 3)) (hp : pc + 3 = pc') (hq : Cond.fieldLink own idx RX11 "imageHut" "[I" ∈ zW) (K : V l d F k n (MW d h σ) lv pc' (.ref (h 17) :: st)) : V l d F k n (MW d h σ) lv pc (.ref (h 0) :: st) := zr_get 0 inX11 rfl rfl 30 (by decide) rfl rfl hq pc' C hd hp K
theorem mg_0_31 {l : Launch} {d : zD} {F : zF} {k n : Nat} {lv : List (Option Value)} {pc : Nat} {st : List Value} {own : String} {cc : ByteArray} {nL fr lo : Nat} {h : Nat → Nat} {σ : zS} {idx : Nat} (pc' : Nat) (C : zOk d F own cc nL fr lo) (hd : decode cc pc = .ok (.getfield idx, 3)) (hp : pc + 3 = pc') (hq : Cond.fieldLink own idx RX11 "imageAt" "[I" ∈ zW) (K : V l d F k n (MW d h σ) lv pc' (.ref (h 18) :: st)) : V l d F k n (MW d h σ) lv pc (.ref (h 0) :: st) := zr_get 0 inX11 rfl rfl 31 (by decide) rfl rfl hq pc' C hd hp K
theorem mg_0_32 {l : Launch} {d : zD} {F : zF} {k n : Nat} {lv : List (Option Value)} {pc : Nat} {st : List Value} {own : String} {cc : ByteArray} {nL fr lo : Nat} {h : Nat → Nat} {σ : zS} {idx : Nat} (pc' : Nat) (C : zOk d F own cc nL fr lo) (hd : decode cc pc = .ok (.getfield idx, 3)) (hp : pc + 3 = pc') (hq : Cond.fieldLink own idx RX11 "sheetSort" "[I" ∈ zW) (K : V l d F k n (MW d h σ) lv pc' (.ref (h 19) :: st)) : V l d F k n (MW d h σ) lv pc (.ref (h 0) :: st) := zr_get 0 inX11 rfl rfl 32 (by decide) rfl rfl hq pc' C hd hp K
theorem mg_0_33 {l : Launch} {d : zD} {F : zF} {k n : Nat} {lv : List (Option Value)} {pc : Nat} {st : List Value} {own : String} {cc : ByteArray} {nL fr lo : Nat} {h : Nat → Nat} {σ : zS} {idx : Nat} (pc' : Nat) (C : zOk d F own cc nL fr lo) (hd : decode cc pc = .ok (.getfield idx, 3)) (hp : pc + 3 = pc') (hq : Cond.fieldLink own idx RX11 "sheetSize" "[I" ∈ zW) (K : V l d F k n (MW d h σ) lv pc' (.ref (h 20) :: st)) : V l d F k n (MW d h σ) lv pc (.ref (h 0) :: st) := zr_get 0 inX11 rfl rfl 33 (by decide) rfl rfl hq pc' C hd hp K
theorem mg_0_34 {l : Launch} {d : zD} {F : zF} {k n : Nat} {lv : List (Option Value)} {pc : Nat} {st : List Value} {own : String} {cc : ByteArray} {nL fr lo : Nat} {h : Nat → Nat} {σ : zS} {idx : Nat} (pc' : Nat) (C : zOk d F own cc nL fr lo) (hd : decode cc pc = .ok (.getfield idx, 3)) (hp : pc + 3 = pc') (hq : Cond.fieldLink own idx RX11 "cells" "[I" ∈ zW) (K : V l d F k n (MW d h σ) lv pc' (.ref (h 21) :: st)) : V l d F k n (MW d h σ) lv pc (.ref (h 0) :: st) := zr_get 0 inX11 rfl rfl 34 (by decide) rfl rfl hq pc' C hd hp K
theorem mg_0_35 {l : Launch} {d : zD} {F : zF} {k n : Nat} {lv : List (Option Value)} {pc : Nat} {st : List Value} {own : String} {cc : ByteArray} {nL fr lo : Nat} {h : Nat → Nat} {σ : zS} {idx : Nat} (pc' : Nat) (C : zOk d F own cc nL fr lo) (hd : decode cc pc = .ok (.getfield idx, 3)) (hp : pc + 3 = pc') (hq : Cond.fieldLink own idx RX11 "at" "I" ∈ zW) (K : V l d F k n (MW d h σ) lv pc' (.int (σ.1 35) :: st)) : V l d F k n (MW d h σ) lv pc (.ref (h 0) :: st) := zr_get 0 inX11 rfl rfl 35 (by decide) rfl rfl hq pc' C hd hp K
theorem mp_0_35 {l : Launch} {d : zD} {F : zF} {k n : Nat} {lv : List (Option Value)} {pc : Nat} {st : List Value} {own : String} {cc : ByteArray} {nL fr lo : Nat} {h : Nat → Nat} {σ : zS} {idx : Nat} {x : Int32} {β : Type} {f : zS → Option β} {out : β} (pc' : Nat) (C : zOk d F own cc nL fr lo) (hd : decode cc pc = .ok (.putfield idx, 3)) (hp : pc + 3 = pc') (hq : Cond.fieldLink own idx RX11 "at" "I" ∈ zW) (hf : zlt (zsg σ 35 x) f = some out) (K : ∀ σ', f σ' = some out → V l d F k n (MW d h σ') lv pc' st) : V l d F k n (MW d h σ) lv pc (.int x :: .ref (h 0) :: st) := zr_put 0 inX11 tyX11 tyX11_ok nmX11 rfl rfl 35 (by decide) rfl rfl rfl rfl rfl (Nat.le_of_ble_eq_true rfl) hq rfl pc' C hd hp (K (zsg σ 35 x) hf)
theorem mg_0_36 {l : Launch} {d : zD} {F : zF} {k n : Nat} {lv : List (Option Value)} {pc : Nat} {st : List Value} {own : String} {cc : ByteArray} {nL fr lo : Nat} {h : Nat → Nat} {σ : zS} {idx : Nat} (pc' : Nat) (C : zOk d F own cc nL fr lo) (hd : decode cc pc = .ok (.getfield idx, 3)) (hp : pc + 3 = pc') (hq : Cond.fieldLink own idx RX11 "begun" "I" ∈ zW) (K : V l d F k n (MW d h σ) lv pc' (.int (σ.1 36) :: st)) : V l d F k n (MW d h σ) lv pc (.ref (h 0) :: st) := zr_get 0 inX11 rfl rfl 36 (by decide) rfl rfl hq pc' C hd hp K
theorem mp_0_36 {l : Launch} {d : zD} {F : zF} {k n : Nat} {lv : List (Option Value)} {pc : Nat} {st : List Value} {own : String} {cc : ByteArray} {nL fr lo : Nat} {h : Nat → Nat} {σ : zS} {idx : Nat} {x : Int32} {β : Type} {f : zS → Option β} {out : β} (pc' : Nat) (C : zOk d F own cc nL fr lo) (hd : decode cc pc = .ok (.putfield idx, 3)) (hp : pc + 3 = pc') (hq : Cond.fieldLink own idx RX11 "begun" "I" ∈ zW) (hf : zlt (zsg σ 36 x) f = some out) (K : ∀ σ', f σ' = some out → V l d F k n (MW d h σ') lv pc' st) : V l d F k n (MW d h σ) lv pc (.int x :: .ref (h 0) :: st) := zr_put 0 inX11 tyX11 tyX11_ok nmX11 rfl rfl 36 (by decide) rfl rfl rfl rfl rfl (Nat.le_of_ble_eq_true rfl) hq rfl pc' C hd hp (K (zsg σ 36 x) hf)
theorem mg_0_37 {l : Launch} {d : zD} {F : zF} {k n : Nat} {lv : List (Option Value)} {pc : Nat} {st : List Value} {own : String} {cc : ByteArray} {nL fr lo : Nat} {h : Nat → Nat} {σ : zS} {idx : Nat} (pc' : Nat) (C : zOk d F own cc nL fr lo) (hd : decode cc pc = .ok (.getfield idx, 3)) (hp : pc + 3 = pc') (hq : Cond.fieldLink own idx RX11 "token" "I" ∈ zW) (K : V l d F k n (MW d h σ) lv pc' (.int (σ.1 37) :: st)) : V l d F k n (MW d h σ) lv pc (.ref (h 0) :: st) := zr_get 0 inX11 rfl rfl 37 (by decide) rfl rfl hq pc' C hd hp K
theorem mp_0_37 {l : Launch} {d : zD} {F : zF} {k n : Nat} {lv : List (Option Value)} {pc : Nat} {st : List Value} {own : String} {cc : ByteArray} {nL fr lo : Nat} {h : Nat → Nat} {σ : zS} {idx : Nat} {x : Int32} {β : Type} {f : zS → Option β} {out : β} (pc' : Nat) (C : zOk d F own cc nL fr lo) (hd : decode cc pc = .ok (.putfield idx, 3)) (hp : pc + 3 = pc') (hq : Cond.fieldLink own idx RX11 "token" "I" ∈ zW) (hf : zlt (zsg σ 37 x) f = some out) (K : ∀ σ', f σ' = some out → V l d F k n (MW d h σ') lv pc' st) : V l d F k n (MW d h σ) lv pc (.int x :: .ref (h 0) :: st) := zr_put 0 inX11 tyX11 tyX11_ok nmX11 rfl rfl 37 (by decide) rfl rfl rfl rfl rfl (Nat.le_of_ble_eq_true rfl) hq rfl pc' C hd hp (K (zsg σ 37 x) hf)
theorem mg_0_38 {l : Launch} {d : zD} {F : zF} {k n : Nat} {lv : List (Option Value)} {pc : Nat} {st : List Value} {own : String} {cc : ByteArray} {nL fr lo : Nat} {h : Nat → Nat} {σ : zS} {idx : Nat} (pc' : Nat) (C : zOk d F own cc nL fr lo) (hd : decode cc pc = .ok (.getfield idx, 3)) (hp : pc + 3 = pc') (hq : Cond.fieldLink own idx RX11 "value" "I" ∈ zW) (K : V l d F k n (MW d h σ) lv pc' (.int (σ.1 38) :: st)) : V l d F k n (MW d h σ) lv pc (.ref (h 0) :: st) := zr_get 0 inX11 rfl rfl 38 (by decide) rfl rfl hq pc' C hd hp K
theorem mp_0_38 {l : Launch} {d : zD} {F : zF} {k n : Nat} {lv : List (Option Value)} {pc : Nat} {st : List Value} {own : String} {cc : ByteArray} {nL fr lo : Nat} {h : Nat → Nat} {σ : zS} {idx : Nat} {x : Int32} {β : Type} {f : zS → Option β} {out : β} (pc' : Nat) (C : zOk d F own cc nL fr lo) (hd : decode cc pc = .ok (.putfield idx, 3)) (hp : pc + 3 = pc') (hq : Cond.fieldLink own idx RX11 "value" "I" ∈ zW) (hf : zlt (zsg σ 38 x) f = some out) (K : ∀ σ', f σ' = some out → V l d F k n (MW d h σ') lv pc' st) : V l d F k n (MW d h σ) lv pc (.int x :: .ref (h 0) :: st) := zr_put 0 inX11 tyX11 tyX11_ok nmX11 rfl rfl 38 (by decide) rfl rfl rfl rfl rfl (Nat.le_of_ble_eq_true rfl) hq rfl pc' C hd hp (K (zsg σ 38 x) hf)
theorem mg_0_39 {l : Launch} {d : zD} {F : zF} {k n : Nat} {lv : List (Option Value)} {pc : Nat} {st : List Value} {own : String} {cc : ByteArray} {nL fr lo : Nat} {h : Nat → Nat} {σ : zS} {idx : Nat} (pc' : Nat) (C : zOk d F own cc nL fr lo) (hd : decode cc pc = .ok (.getfield idx, 3)) (hp : pc + 3 = pc') (hq : Cond.fieldLink own idx RX11 "words" "[J" ∈ zW) (K : V l d F k n (MW d h σ) lv pc' (.ref (h 22) :: st)) : V l d F k n (MW d h σ) lv pc (.ref (h 0) :: st) := zr_get 0 inX11 rfl rfl 39 (by decide) rfl rfl hq pc' C hd hp K
theorem mg_0_40 {l : Launch} {d : zD} {F : zF} {k n : Nat} {lv : List (Option Value)} {pc : Nat} {st : List Value} {own : String} {cc : ByteArray} {nL fr lo : Nat} {h : Nat → Nat} {σ : zS} {idx : Nat} (pc' : Nat) (C : zOk d F own cc nL fr lo) (hd : decode cc pc = .ok (.getfield idx, 3)) (hp : pc + 3 = pc') (hq : Cond.fieldLink own idx RX11 "held" "[I" ∈ zW) (K : V l d F k n (MW d h σ) lv pc' (.ref (h 23) :: st)) : V l d F k n (MW d h σ) lv pc (.ref (h 0) :: st) := zr_get 0 inX11 rfl rfl 40 (by decide) rfl rfl hq pc' C hd hp K
theorem mg_0_41 {l : Launch} {d : zD} {F : zF} {k n : Nat} {lv : List (Option Value)} {pc : Nat} {st : List Value} {own : String} {cc : ByteArray} {nL fr lo : Nat} {h : Nat → Nat} {σ : zS} {idx : Nat} (pc' : Nat) (C : zOk d F own cc nL fr lo) (hd : decode cc pc = .ok (.getfield idx, 3)) (hp : pc + 3 = pc') (hq : Cond.fieldLink own idx RX11 "heldMany" "I" ∈ zW) (K : V l d F k n (MW d h σ) lv pc' (.int (σ.1 41) :: st)) : V l d F k n (MW d h σ) lv pc (.ref (h 0) :: st) := zr_get 0 inX11 rfl rfl 41 (by decide) rfl rfl hq pc' C hd hp K
theorem mp_0_41 {l : Launch} {d : zD} {F : zF} {k n : Nat} {lv : List (Option Value)} {pc : Nat} {st : List Value} {own : String} {cc : ByteArray} {nL fr lo : Nat} {h : Nat → Nat} {σ : zS} {idx : Nat} {x : Int32} {β : Type} {f : zS → Option β} {out : β} (pc' : Nat) (C : zOk d F own cc nL fr lo) (hd : decode cc pc = .ok (.putfield idx, 3)) (hp : pc + 3 = pc') (hq : Cond.fieldLink own idx RX11 "heldMany" "I" ∈ zW) (hf : zlt (zsg σ 41 x) f = some out) (K : ∀ σ', f σ' = some out → V l d F k n (MW d h σ') lv pc' st) : V l d F k n (MW d h σ) lv pc (.int x :: .ref (h 0) :: st) := zr_put 0 inX11 tyX11 tyX11_ok nmX11 rfl rfl 41 (by decide) rfl rfl rfl rfl rfl (Nat.le_of_ble_eq_true rfl) hq rfl pc' C hd hp (K (zsg σ 41 x) hf)
theorem mg_0_42 {l : Launch} {d : zD} {F : zF} {k n : Nat} {lv : List (Option Value)} {pc : Nat} {st : List Value} {own : String} {cc : ByteArray} {nL fr lo : Nat} {h : Nat → Nat} {σ : zS} {idx : Nat} (pc' : Nat) (C : zOk d F own cc nL fr lo) (hd : decode cc pc = .ok (.getfield idx, 3)) (hp : pc + 3 = pc') (hq : Cond.fieldLink own idx RX11 "opens" "I" ∈ zW) (K : V l d F k n (MW d h σ) lv pc' (.int (σ.1 42) :: st)) : V l d F k n (MW d h σ) lv pc (.ref (h 0) :: st) := zr_get 0 inX11 rfl rfl 42 (by decide) rfl rfl hq pc' C hd hp K
theorem mp_0_42 {l : Launch} {d : zD} {F : zF} {k n : Nat} {lv : List (Option Value)} {pc : Nat} {st : List Value} {own : String} {cc : ByteArray} {nL fr lo : Nat} {h : Nat → Nat} {σ : zS} {idx : Nat} {x : Int32} {β : Type} {f : zS → Option β} {out : β} (pc' : Nat) (C : zOk d F own cc nL fr lo) (hd : decode cc pc = .ok (.putfield idx, 3)) (hp : pc + 3 = pc') (hq : Cond.fieldLink own idx RX11 "opens" "I" ∈ zW) (hf : zlt (zsg σ 42 x) f = some out) (K : ∀ σ', f σ' = some out → V l d F k n (MW d h σ') lv pc' st) : V l d F k n (MW d h σ) lv pc (.int x :: .ref (h 0) :: st) := zr_put 0 inX11 tyX11 tyX11_ok nmX11 rfl rfl 42 (by decide) rfl rfl rfl rfl rfl (Nat.le_of_ble_eq_true rfl) hq rfl pc' C hd hp (K (zsg σ 42 x) hf)
theorem mg_0_43 {l : Launch} {d : zD} {F : zF} {k n : Nat} {lv : List (Option Value)} {pc : Nat} {st : List Value} {own : String} {cc : ByteArray} {nL fr lo : Nat} {h : Nat → Nat} {σ : zS} {idx : Nat} (pc' : Nat) (C : zOk d F own cc nL fr lo) (hd : decode cc pc = .ok (.getfield idx, 3)) (hp : pc + 3 = pc') (hq : Cond.fieldLink own idx RX11 "out" "I" ∈ zW) (K : V l d F k n (MW d h σ) lv pc' (.int (σ.1 43) :: st)) : V l d F k n (MW d h σ) lv pc (.ref (h 0) :: st) := zr_get 0 inX11 rfl rfl 43 (by decide) rfl rfl hq pc' C hd hp K
theorem mp_0_43 {l : Launch} {d : zD} {F : zF} {k n : Nat} {lv : List (Option Value)} {pc : Nat} {st : List Value} {own : String} {cc : ByteArray} {nL fr lo : Nat} {h : Nat → Nat} {σ : zS} {idx : Nat} {x : Int32} {β : Type} {f : zS → Option β} {out : β} (pc' : Nat) (C : zOk d F own cc nL fr lo) (hd : decode cc pc = .ok (.putfield idx, 3)) (hp : pc + 3 = pc') (hq : Cond.fieldLink own idx RX11 "out" "I" ∈ zW) (hf : zlt (zsg σ 43 x) f = some out) (K : ∀ σ', f σ' = some out → V l d F k n (MW d h σ') lv pc' st) : V l d F k n (MW d h σ) lv pc (.int x :: .ref (h 0) :: st) := zr_put 0 inX11 tyX11 tyX11_ok nmX11 rfl rfl 43 (by decide) rfl rfl rfl rfl rfl (Nat.le_of_ble_eq_true rfl) hq rfl pc' C hd hp (K (zsg σ 43 x) hf)
theorem mg_0_44 {l : Launch} {d : zD} {F : zF} {k n : Nat} {lv : List (Option Value)} {pc : Nat} {st : List Value} {own : String} {cc : ByteArray} {nL fr lo : Nat} {h : Nat → Nat} {σ : zS} {idx : Nat} (pc' : Nat) (C : zOk d F own cc nL fr lo) (hd : decode cc pc = .ok (.getfield idx, 3)) (hp : pc + 3 = pc') (hq : Cond.fieldLink own idx RX11 "stack" "[I" ∈ zW) (K : V l d F k n (MW d h σ) lv pc' (.ref (h 24) :: st)) : V l d F k n (MW d h σ) lv pc (.ref (h 0) :: st) := zr_get 0 inX11 rfl rfl 44 (by decide) rfl rfl hq pc' C hd hp K
theorem mg_0_45 {l : Launch} {d : zD} {F : zF} {k n : Nat} {lv : List (Option Value)} {pc : Nat} {st : List Value} {own : String} {cc : ByteArray} {nL fr lo : Nat} {h : Nat → Nat} {σ : zS} {idx : Nat} (pc' : Nat) (C : zOk d F own cc nL fr lo) (hd : decode cc pc = .ok (.getfield idx, 3)) (hp : pc + 3 = pc') (hq : Cond.fieldLink own idx RX11 "named" "[I" ∈ zW) (K : V l d F k n (MW d h σ) lv pc' (.ref (h 25) :: st)) : V l d F k n (MW d h σ) lv pc (.ref (h 0) :: st) := zr_get 0 inX11 rfl rfl 45 (by decide) rfl rfl hq pc' C hd hp K
theorem mg_0_46 {l : Launch} {d : zD} {F : zF} {k n : Nat} {lv : List (Option Value)} {pc : Nat} {st : List Value} {own : String} {cc : ByteArray} {nL fr lo : Nat} {h : Nat → Nat} {σ : zS} {idx : Nat} (pc' : Nat) (C : zOk d F own cc nL fr lo) (hd : decode cc pc = .ok (.getfield idx, 3)) (hp : pc + 3 = pc') (hq : Cond.fieldLink own idx RX11 "nowReach" "I" ∈ zW) (K : V l d F k n (MW d h σ) lv pc' (.int (σ.1 46) :: st)) : V l d F k n (MW d h σ) lv pc (.ref (h 0) :: st) := zr_get 0 inX11 rfl rfl 46 (by decide) rfl rfl hq pc' C hd hp K
theorem mp_0_46 {l : Launch} {d : zD} {F : zF} {k n : Nat} {lv : List (Option Value)} {pc : Nat} {st : List Value} {own : String} {cc : ByteArray} {nL fr lo : Nat} {h : Nat → Nat} {σ : zS} {idx : Nat} {x : Int32} {β : Type} {f : zS → Option β} {out : β} (pc' : Nat) (C : zOk d F own cc nL fr lo) (hd : decode cc pc = .ok (.putfield idx, 3)) (hp : pc + 3 = pc') (hq : Cond.fieldLink own idx RX11 "nowReach" "I" ∈ zW) (hf : zlt (zsg σ 46 x) f = some out) (K : ∀ σ', f σ' = some out → V l d F k n (MW d h σ') lv pc' st) : V l d F k n (MW d h σ) lv pc (.int x :: .ref (h 0) :: st) := zr_put 0 inX11 tyX11 tyX11_ok nmX11 rfl rfl 46 (by decide) rfl rfl rfl rfl rfl (Nat.le_of_ble_eq_true rfl) hq rfl pc' C hd hp (K (zsg σ 46 x) hf)
theorem mg_0_47 {l : Launch} {d : zD} {F : zF} {k n : Nat} {lv : List (Option Value)} {pc : Nat} {st : List Value} {own : String} {cc : ByteArray} {nL fr lo : Nat} {h : Nat → Nat} {σ : zS} {idx : Nat} (pc' : Nat) (C : zOk d F own cc nL fr lo) (hd : decode cc pc = .ok (.getfield idx, 3)) (hp : pc + 3 = pc') (hq : Cond.fieldLink own idx RX11 "nowTown" "I" ∈ zW) (K : V l d F k n (MW d h σ) lv pc' (.int (σ.1 47) :: st)) : V l d F k n (MW d h σ) lv pc (.ref (h 0) :: st) := zr_get 0 inX11 rfl rfl 47 (by decide) rfl rfl hq pc' C hd hp K
theorem mp_0_47 {l : Launch} {d : zD} {F : zF} {k n : Nat} {lv : List (Option Value)} {pc : Nat} {st : List Value} {own : String} {cc : ByteArray} {nL fr lo : Nat} {h : Nat → Nat} {σ : zS} {idx : Nat} {x : Int32} {β : Type} {f : zS → Option β} {out : β} (pc' : Nat) (C : zOk d F own cc nL fr lo) (hd : decode cc pc = .ok (.putfield idx, 3)) (hp : pc + 3 = pc') (hq : Cond.fieldLink own idx RX11 "nowTown" "I" ∈ zW) (hf : zlt (zsg σ 47 x) f = some out) (K : ∀ σ', f σ' = some out → V l d F k n (MW d h σ') lv pc' st) : V l d F k n (MW d h σ) lv pc (.int x :: .ref (h 0) :: st) := zr_put 0 inX11 tyX11 tyX11_ok nmX11 rfl rfl 47 (by decide) rfl rfl rfl rfl rfl (Nat.le_of_ble_eq_true rfl) hq rfl pc' C hd hp (K (zsg σ 47 x) hf)
theorem mg_0_48 {l : Launch} {d : zD} {F : zF} {k n : Nat} {lv : List (Option Value)} {pc : Nat} {st : List Value} {own : String} {cc : ByteArray} {nL fr lo : Nat} {h : Nat → Nat} {σ : zS} {idx : Nat} (pc' : Nat) (C : zOk d F own cc nL fr lo) (hd : decode cc pc = .ok (.getfield idx, 3)) (hp : pc + 3 = pc') (hq : Cond.fieldLink own idx RX11 "lowX" "I" ∈ zW) (K : V l d F k n (MW d h σ) lv pc' (.int (σ.1 48) :: st)) : V l d F k n (MW d h σ) lv pc (.ref (h 0) :: st) := zr_get 0 inX11 rfl rfl 48 (by decide) rfl rfl hq pc' C hd hp K
theorem mp_0_48 {l : Launch} {d : zD} {F : zF} {k n : Nat} {lv : List (Option Value)} {pc : Nat} {st : List Value} {own : String} {cc : ByteArray} {nL fr lo : Nat} {h : Nat → Nat} {σ : zS} {idx : Nat} {x : Int32} {β : Type} {f : zS → Option β} {out : β} (pc' : Nat) (C : zOk d F own cc nL fr lo) (hd : decode cc pc = .ok (.putfield idx, 3)) (hp : pc + 3 = pc') (hq : Cond.fieldLink own idx RX11 "lowX" "I" ∈ zW) (hf : zlt (zsg σ 48 x) f = some out) (K : ∀ σ', f σ' = some out → V l d F k n (MW d h σ') lv pc' st) : V l d F k n (MW d h σ) lv pc (.int x :: .ref (h 0) :: st) := zr_put 0 inX11 tyX11 tyX11_ok nmX11 rfl rfl 48 (by decide) rfl rfl rfl rfl rfl (Nat.le_of_ble_eq_true rfl) hq rfl pc' C hd hp (K (zsg σ 48 x) hf)
theorem mg_0_49 {l : Launch} {d : zD} {F : zF} {k n : Nat} {lv : List (Option Value)} {pc : Nat} {st : List Value} {own : String} {cc : ByteArray} {nL fr lo : Nat} {h : Nat → Nat} {σ : zS} {idx : Nat} (pc' : Nat) (C : zOk d F own cc nL fr lo) (hd : decode cc pc = .ok (.getfield idx, 3)) (hp : pc + 3 = pc') (hq : Cond.fieldLink own idx RX11 "highX" "I" ∈ zW) (K : V l d F k n (MW d h σ) lv pc' (.int (σ.1 49) :: st)) : V l d F k n (MW d h σ) lv pc (.ref (h 0) :: st) := zr_get 0 inX11 rfl rfl 49 (by decide) rfl rfl hq pc' C hd hp K
theorem mp_0_49 {l : Launch} {d : zD} {F : zF} {k n : Nat} {lv : List (Option Value)} {pc : Nat} {st : List Value} {own : String} {cc : ByteArray} {nL fr lo : Nat} {h : Nat → Nat} {σ : zS} {idx : Nat} {x : Int32} {β : Type} {f : zS → Option β} {out : β} (pc' : Nat) (C : zOk d F own cc nL fr lo) (hd : decode cc pc = .ok (.putfield idx, 3)) (hp : pc + 3 = pc') (hq : Cond.fieldLink own idx RX11 "highX" "I" ∈ zW) (hf : zlt (zsg σ 49 x) f = some out) (K : ∀ σ', f σ' = some out → V l d F k n (MW d h σ') lv pc' st) : V l d F k n (MW d h σ) lv pc (.int x :: .ref (h 0) :: st) := zr_put 0 inX11 tyX11 tyX11_ok nmX11 rfl rfl 49 (by decide) rfl rfl rfl rfl rfl (Nat.le_of_ble_eq_true rfl) hq rfl pc' C hd hp (K (zsg σ 49 x) hf)
theorem mg_0_50 {l : Launch} {d : zD} {F : zF} {k n : Nat} {lv : List (Option Value)} {pc : Nat} {st : List Value} {own : String} {cc : ByteArray} {nL fr lo : Nat} {h : Nat → Nat} {σ : zS} {idx : Nat} (pc' : Nat) (C : zOk d F own cc nL fr lo) (hd : decode cc pc = .ok (.getfield idx, 3)) (hp : pc + 3 = pc') (hq : Cond.fieldLink own idx RX11 "lowY" "I" ∈ zW) (K : V l d F k n (MW d h σ) lv pc' (.int (σ.1 50) :: st)) : V l d F k n (MW d h σ) lv pc (.ref (h 0) :: st) := zr_get 0 inX11 rfl rfl 50 (by decide) rfl rfl hq pc' C hd hp K
theorem mp_0_50 {l : Launch} {d : zD} {F : zF} {k n : Nat} {lv : List (Option Value)} {pc : Nat} {st : List Value} {own : String} {cc : ByteArray} {nL fr lo : Nat} {h : Nat → Nat} {σ : zS} {idx : Nat} {x : Int32} {β : Type} {f : zS → Option β} {out : β} (pc' : Nat) (C : zOk d F own cc nL fr lo) (hd : decode cc pc = .ok (.putfield idx, 3)) (hp : pc + 3 = pc') (hq : Cond.fieldLink own idx RX11 "lowY" "I" ∈ zW) (hf : zlt (zsg σ 50 x) f = some out) (K : ∀ σ', f σ' = some out → V l d F k n (MW d h σ') lv pc' st) : V l d F k n (MW d h σ) lv pc (.int x :: .ref (h 0) :: st) := zr_put 0 inX11 tyX11 tyX11_ok nmX11 rfl rfl 50 (by decide) rfl rfl rfl rfl rfl (Nat.le_of_ble_eq_true rfl) hq rfl pc' C hd hp (K (zsg σ 50 x) hf)
theorem mg_0_51 {l : Launch} {d : zD} {F : zF} {k n : Nat} {lv : List (Option Value)} {pc : Nat} {st : List Value} {own : String} {cc : ByteArray} {nL fr lo : Nat} {h : Nat → Nat} {σ : zS} {idx : Nat} (pc' : Nat) (C : zOk d F own cc nL fr lo) (hd : decode cc pc = .ok (.getfield idx, 3)) (hp : pc + 3 = pc') (hq : Cond.fieldLink own idx RX11 "highY" "I" ∈ zW) (K : V l d F k n (MW d h σ) lv pc' (.int (σ.1 51) :: st)) : V l d F k n (MW d h σ) lv pc (.ref (h 0) :: st) := zr_get 0 inX11 rfl rfl 51 (by decide) rfl rfl hq pc' C hd hp K
theorem mp_0_51 {l : Launch} {d : zD} {F : zF} {k n : Nat} {lv : List (Option Value)} {pc : Nat} {st : List Value} {own : String} {cc : ByteArray} {nL fr lo : Nat} {h : Nat → Nat} {σ : zS} {idx : Nat} {x : Int32} {β : Type} {f : zS → Option β} {out : β} (pc' : Nat) (C : zOk d F own cc nL fr lo) (hd : decode cc pc = .ok (.putfield idx, 3)) (hp : pc + 3 = pc') (hq : Cond.fieldLink own idx RX11 "highY" "I" ∈ zW) (hf : zlt (zsg σ 51 x) f = some out) (K : ∀ σ', f σ' = some out → V l d F k n (MW d h σ') lv pc' st) : V l d F k n (MW d h σ) lv pc (.int x :: .ref (h 0) :: st) := zr_put 0 inX11 tyX11 tyX11_ok nmX11 rfl rfl 51 (by decide) rfl rfl rfl rfl rfl (Nat.le_of_ble_eq_true rfl) hq rfl pc' C hd hp (K (zsg σ 51 x) hf)
theorem mg_0_52 {l : Launch} {d : zD} {F : zF} {k n : Nat} {lv : List (Option Value)} {pc : Nat} {st : List Value} {own : String} {cc : ByteArray} {nL fr lo : Nat} {h : Nat → Nat} {σ : zS} {idx : Nat} (pc' : Nat) (C : zOk d F own cc nL fr lo) (hd : decode cc pc = .ok (.getfield idx, 3)) (hp : pc + 3 = pc') (hq : Cond.fieldLink own idx RX11 "inOne" "[Z" ∈ zW) (K : V l d F k n (MW d h σ) lv pc' (.ref (h 26) :: st)) : V l d F k n (MW d h σ) lv pc (.ref (h 0) :: st) := zr_get 0 inX11 rfl rfl 52 (by decide) rfl rfl hq pc' C hd hp K
theorem mg_0_53 {l : Launch} {d : zD} {F : zF} {k n : Nat} {lv : List (Option Value)} {pc : Nat} {st : List Value} {own : String} {cc : ByteArray} {nL fr lo : Nat} {h : Nat → Nat} {σ : zS} {idx : Nat} (pc' : Nat) (C : zOk d F own cc nL fr lo) (hd : decode cc pc = .ok (.getfield idx, 3)) (hp : pc + 3 = pc') (hq : Cond.fieldLink own idx RX11 "inOther" "[Z" ∈ zW) (K : V l d F k n (MW d h σ) lv pc' (.ref (h 27) :: st)) : V l d F k n (MW d h σ) lv pc (.ref (h 0) :: st) := zr_get 0 inX11 rfl rfl 53 (by decide) rfl rfl hq pc' C hd hp K
theorem mg_0_54 {l : Launch} {d : zD} {F : zF} {k n : Nat} {lv : List (Option Value)} {pc : Nat} {st : List Value} {own : String} {cc : ByteArray} {nL fr lo : Nat} {h : Nat → Nat} {σ : zS} {idx : Nat} (pc' : Nat) (C : zOk d F own cc nL fr lo) (hd : decode cc pc = .ok (.getfield idx, 3)) (hp : pc + 3 = pc') (hq : Cond.fieldLink own idx RX11 "least" "[I" ∈ zW) (K : V l d F k n (MW d h σ) lv pc' (.ref (h 28) :: st)) : V l d F k n (MW d h σ) lv pc (.ref (h 0) :: st) := zr_get 0 inX11 rfl rfl 54 (by decide) rfl rfl hq pc' C hd hp K
theorem mg_0_55 {l : Launch} {d : zD} {F : zF} {k n : Nat} {lv : List (Option Value)} {pc : Nat} {st : List Value} {own : String} {cc : ByteArray} {nL fr lo : Nat} {h : Nat → Nat} {σ : zS} {idx : Nat} (pc' : Nat) (C : zOk d F own cc nL fr lo) (hd : decode cc pc = .ok (.getfield idx, 3)) (hp : pc + 3 = pc') (hq : Cond.fieldLink own idx RX11 "ring" "[I" ∈ zW) (K : V l d F k n (MW d h σ) lv pc' (.ref (h 29) :: st)) : V l d F k n (MW d h σ) lv pc (.ref (h 0) :: st) := zr_get 0 inX11 rfl rfl 55 (by decide) rfl rfl hq pc' C hd hp K
theorem mg_0_56 {l : Launch} {d : zD} {F : zF} {k n : Nat} {lv : List (Option Value)} {pc : Nat} {st : List Value} {own : String} {cc : ByteArray} {nL fr lo : Nat} {h : Nat → Nat} {σ : zS} {idx : Nat} (pc' : Nat) (C : zOk d F own cc nL fr lo) (hd : decode cc pc = .ok (.getfield idx, 3)) (hp : pc + 3 = pc') (hq : Cond.fieldLink own idx RX11 "waits" "[Z" ∈ zW) (K : V l d F k n (MW d h σ) lv pc' (.ref (h 30) :: st)) : V l d F k n (MW d h σ) lv pc (.ref (h 0) :: st) := zr_get 0 inX11 rfl rfl 56 (by decide) rfl rfl hq pc' C hd hp K
theorem mg_0_57 {l : Launch} {d : zD} {F : zF} {k n : Nat} {lv : List (Option Value)} {pc : Nat} {st : List Value} {own : String} {cc : ByteArray} {nL fr lo : Nat} {h : Nat → Nat} {σ : zS} {idx : Nat} (pc' : Nat) (C : zOk d F own cc nL fr lo) (hd : decode cc pc = .ok (.getfield idx, 3)) (hp : pc + 3 = pc') (hq : Cond.fieldLink own idx RX11 "ringFrom" "I" ∈ zW) (K : V l d F k n (MW d h σ) lv pc' (.int (σ.1 57) :: st)) : V l d F k n (MW d h σ) lv pc (.ref (h 0) :: st) := zr_get 0 inX11 rfl rfl 57 (by decide) rfl rfl hq pc' C hd hp K
theorem mp_0_57 {l : Launch} {d : zD} {F : zF} {k n : Nat} {lv : List (Option Value)} {pc : Nat} {st : List Value} {own : String} {cc : ByteArray} {nL fr lo : Nat} {h : Nat → Nat} {σ : zS} {idx : Nat} {x : Int32} {β : Type} {f : zS → Option β} {out : β} (pc' : Nat) (C : zOk d F own cc nL fr lo) (hd : decode cc pc = .ok (.putfield idx, 3)) (hp : pc + 3 = pc') (hq : Cond.fieldLink own idx RX11 "ringFrom" "I" ∈ zW) (hf : zlt (zsg σ 57 x) f = some out) (K : ∀ σ', f σ' = some out → V l d F k n (MW d h σ') lv pc' st) : V l d F k n (MW d h σ) lv pc (.int x :: .ref (h 0) :: st) := zr_put 0 inX11 tyX11 tyX11_ok nmX11 rfl rfl 57 (by decide) rfl rfl rfl rfl rfl (Nat.le_of_ble_eq_true rfl) hq rfl pc' C hd hp (K (zsg σ 57 x) hf)
theorem mg_0_58 {l : Launch} {d : zD} {F : zF} {k n : Nat} {lv : List (Option Value)} {pc : Nat} {st : List Value} {own : String} {cc : ByteArray} {nL fr lo : Nat} {h : Nat → Nat} {σ : zS} {idx : Nat} (pc' : Nat) (C : zOk d F own cc nL fr lo) (hd : decode cc pc = .ok (.getfield idx, 3)) (hp : pc + 3 = pc') (hq : Cond.fieldLink own idx RX11 "ringMany" "I" ∈ zW) (K : V l d F k n (MW d h σ) lv pc' (.int (σ.1 58) :: st)) : V l d F k n (MW d h σ) lv pc (.ref (h 0) :: st) := zr_get 0 inX11 rfl rfl 58 (by decide) rfl rfl hq pc' C hd hp K
theorem mp_0_58 {l : Launch} {d : zD} {F : zF} {k n : Nat} {lv : List (Option Value)} {pc : Nat} {st : List Value} {own : String} {cc : ByteArray} {nL fr lo : Nat} {h : Nat → Nat} {σ : zS} {idx : Nat} {x : Int32} {β : Type} {f : zS → Option β} {out : β} (pc' : Nat) (C : zOk d F own cc nL fr lo) (hd : decode cc pc = .ok (.putfield idx, 3)) (hp : pc + 3 = pc') (hq : Cond.fieldLink own idx RX11 "ringMany" "I" ∈ zW) (hf : zlt (zsg σ 58 x) f = some out) (K : ∀ σ', f σ' = some out → V l d F k n (MW d h σ') lv pc' st) : V l d F k n (MW d h σ) lv pc (.int x :: .ref (h 0) :: st) := zr_put 0 inX11 tyX11 tyX11_ok nmX11 rfl rfl 58 (by decide) rfl rfl rfl rfl rfl (Nat.le_of_ble_eq_true rfl) hq rfl pc' C hd hp (K (zsg σ 58 x) hf)
theorem mg_0_59 {l : Launch} {d : zD} {F : zF} {k n : Nat} {lv : List (Option Value)} {pc : Nat} {st : List Value} {own : String} {cc : ByteArray} {nL fr lo : Nat} {h : Nat → Nat} {σ : zS} {idx : Nat} (pc' : Nat) (C : zOk d F own cc nL fr lo) (hd : decode cc pc = .ok (.getfield idx, 3)) (hp : pc + 3 = pc') (hq : Cond.fieldLink own idx RX11 "kept" "[I" ∈ zW) (K : V l d F k n (MW d h σ) lv pc' (.ref (h 31) :: st)) : V l d F k n (MW d h σ) lv pc (.ref (h 0) :: st) := zr_get 0 inX11 rfl rfl 59 (by decide) rfl rfl hq pc' C hd hp K
theorem ml_1 {l : Launch} {d : zD} {F : zF} {k n : Nat} {lv : List (Option Value)} {pc : Nat} {st : List Value} {own : String} {cc : ByteArray} {nL fr lo : Nat} {h : Nat → Nat} {σ : zS} {i : Int32} {β : Type} {X : Option β} {out : β} (pc' : Nat) (C : zOk d F own cc nL fr lo) (hd : decode cc pc = .ok (.iaload, 1)) (hp : pc + 1 = pc') (hf : zin i 20 X = some out) (K : X = some out → V l d F k n (MW d h σ) lv pc' (.int (σ.2 1 i.toNatClampNeg) :: st)) : V l d F k n (MW d h σ) lv pc (.int i :: .ref (h 1) :: st) := zr_iald 1 rfl pc' C hd hp hf K
theorem ms_1 {l : Launch} {d : zD} {F : zF} {k n : Nat} {lv : List (Option Value)} {pc : Nat} {st : List Value} {own : String} {cc : ByteArray} {nL fr lo : Nat} {h : Nat → Nat} {σ : zS} {i x : Int32} {β : Type} {f : zS → Option β} {out : β} (pc' : Nat) (C : zOk d F own cc nL fr lo) (hd : decode cc pc = .ok (.iastore, 1)) (hp : pc + 1 = pc') (hf : zin i 20 (zlt (zsa σ 1 i x) f) = some out) (K : ∀ σ', f σ' = some out → V l d F k n (MW d h σ') lv pc' st) : V l d F k n (MW d h σ) lv pc (.int x :: .int i :: .ref (h 1) :: st) := zr_iast 1 rfl rfl pc' C hd hp hf (fun hf => K (zsa σ 1 i x) hf)
theorem ml_2 {l : Launch} {d : zD} {F : zF} {k n : Nat} {lv : List (Option Value)} {pc : Nat} {st : List Value} {own : String} {cc : ByteArray} {nL fr lo : Nat} {h : Nat → Nat} {σ : zS} {i : Int32} {β : Type} {X : Option β} {out : β} (pc' : Nat) (C : zOk d F own cc nL fr lo) (hd : decode cc pc = .ok (.iaload, 1)) (hp : pc + 1 = pc') (hf : zin i 20 X = some out) (K : X = some out → V l d F k n (MW d h σ) lv pc' (.int (σ.2 2 i.toNatClampNeg) :: st)) : V l d F k n (MW d h σ) lv pc (.int i :: .ref (h 2) :: st) := zr_iald 2 rfl pc' C hd hp hf K
theorem ms_2 {l : Launch} {d : zD} {F : zF} {k n : Nat} {lv : List (Option Value)} {pc : Nat} {st : List Value} {own : String} {cc : ByteArray} {nL fr lo : Nat} {h : Nat → Nat} {σ : zS} {i x : Int32} {β : Type} {f : zS → Option β} {out : β} (pc' : Nat) (C : zOk d F own cc nL fr lo) (hd : decode cc pc = .ok (.iastore, 1)) (hp : pc + 1 = pc') (hf : zin i 20 (zlt (zsa σ 2 i x) f) = some out) (K : ∀ σ', f σ' = some out → V l d F k n (MW d h σ') lv pc' st) : V l d F k n (MW d h σ) lv pc (.int x :: .int i :: .ref (h 2) :: st) := zr_iast 2 rfl rfl pc' C hd hp hf (fun hf => K (zsa σ 2 i x) hf)
theorem ml_3 {l : Launch} {d : zD} {F : zF} {k n : Nat} {lv : List (Option Value)} {pc : Nat} {st : List Value} {own : String} {cc : ByteArray} {nL fr lo : Nat} {h : Nat → Nat} {σ : zS} {i : Int32} {β : Type} {X : Option β} {out : β} (pc' : Nat) (C : zOk d F own cc nL fr lo) (hd : decode cc pc = .ok (.iaload, 1)) (hp : pc + 1 = pc') (hf : zin i 12 X = some out) (K : X = some out → V l d F k n (MW d h σ) lv pc' (.int (σ.2 3 i.toNatClampNeg) :: st)) : V l d F k n (MW d h σ) lv pc (.int i :: .ref (h 3) :: st) := zr_iald 3 rfl pc' C hd hp hf K
theorem ms_3 {l : Launch} {d : zD} {F : zF} {k n : Nat} {lv : List (Option Value)} {pc : Nat} {st : List Value} {own : String} {cc : ByteArray} {nL fr lo : Nat} {h : Nat → Nat} {σ : zS} {i x : Int32} {β : Type} {f : zS → Option β} {out : β} (pc' : Nat) (C : zOk d F own cc nL fr lo) (hd : decode cc pc = .ok (.iastore, 1)) (hp : pc + 1 = pc') (hf : zin i 12 (zlt (zsa σ 3 i x) f) = some out) (K : ∀ σ', f σ' = some out → V l d F k n (MW d h σ') lv pc' st) : V l d F k n (MW d h σ) lv pc (.int x :: .int i :: .ref (h 3) :: st) := zr_iast 3 rfl rfl pc' C hd hp hf (fun hf => K (zsa σ 3 i x) hf)
theorem ml_4 {l : Launch} {d : zD} {F : zF} {k n : Nat} {lv : List (Option Value)} {pc : Nat} {st : List Value} {own : String} {cc : ByteArray} {nL fr lo : Nat} {h : Nat → Nat} {σ : zS} {i : Int32} {β : Type} {X : Option β} {out : β} (pc' : Nat) (C : zOk d F own cc nL fr lo) (hd : decode cc pc = .ok (.iaload, 1)) (hp : pc + 1 = pc') (hf : zin i 12 X = some out) (K : X = some out → V l d F k n (MW d h σ) lv pc' (.int (σ.2 4 i.toNatClampNeg) :: st)) : V l d F k n (MW d h σ) lv pc (.int i :: .ref (h 4) :: st) := zr_iald 4 rfl pc' C hd hp hf K
theorem ms_4 {l : Launch} {d : zD} {F : zF} {k n : Nat} {lv : List (Option Value)} {pc : Nat} {st : List Value} {own : String} {cc : ByteArray} {nL fr lo : Nat} {h : Nat → Nat} {σ : zS} {i x : Int32} {β : Type} {f : zS → Option β} {out : β} (pc' : Nat) (C : zOk d F own cc nL fr lo) (hd : decode cc pc = .ok (.iastore, 1)) (hp : pc + 1 = pc') (hf : zin i 12 (zlt (zsa σ 4 i x) f) = some out) (K : ∀ σ', f σ' = some out → V l d F k n (MW d h σ') lv pc' st) : V l d F k n (MW d h σ) lv pc (.int x :: .int i :: .ref (h 4) :: st) := zr_iast 4 rfl rfl pc' C hd hp hf (fun hf => K (zsa σ 4 i x) hf)
theorem ml_5 {l : Launch} {d : zD} {F : zF} {k n : Nat} {lv : List (Option Value)} {pc : Nat} {st : List Value} {own : String} {cc : ByteArray} {nL fr lo : Nat} {h : Nat → Nat} {σ : zS} {i : Int32} {β : Type} {X : Option β} {out : β} (pc' : Nat) (C : zOk d F own cc nL fr lo) (hd : decode cc pc = .ok (.iaload, 1)) (hp : pc + 1 = pc') (hf : zin i 12 X = some out) (K : X = some out → V l d F k n (MW d h σ) lv pc' (.int (σ.2 5 i.toNatClampNeg) :: st)) : V l d F k n (MW d h σ) lv pc (.int i :: .ref (h 5) :: st) := zr_iald 5 rfl pc' C hd hp hf K
theorem ms_5 {l : Launch} {d : zD} {F : zF} {k n : Nat} {lv : List (Option Value)} {pc : Nat} {st : List Value} {own : String} {cc : ByteArray} {nL fr lo : Nat} {h : Nat → Nat} {σ : zS} {i x : Int32} {β : Type} {f : zS → Option β} {out : β} (pc' : Nat) (C : zOk d F own cc nL fr lo) (hd : decode cc pc = .ok (.iastore, 1)) (hp : pc + 1 = pc') (hf : zin i 12 (zlt (zsa σ 5 i x) f) = some out) (K : ∀ σ', f σ' = some out → V l d F k n (MW d h σ') lv pc' st) : V l d F k n (MW d h σ) lv pc (.int x :: .int i :: .ref (h 5) :: st) := zr_iast 5 rfl rfl pc' C hd hp hf (fun hf => K (zsa σ 5 i x) hf)
theorem ml_6 {l : Launch} {d : zD} {F : zF} {k n : Nat} {lv : List (Option Value)} {pc : Nat} {st : List Value} {own : String} {cc : ByteArray} {nL fr lo : Nat} {h : Nat → Nat} {σ : zS} {i : Int32} {β : Type} {X : Option β} {out : β} (pc' : Nat) (C : zOk d F own cc nL fr lo) (hd : decode cc pc = .ok (.iaload, 1)) (hp : pc + 1 = pc') (hf : zin i 6 X = some out) (K : X = some out → V l d F k n (MW d h σ) lv pc' (.int (σ.2 6 i.toNatClampNeg) :: st)) : V l d F k n (MW d h σ) lv pc (.int i :: .ref (h 6) :: st) := zr_iald 6 rfl pc' C hd hp hf K
theorem ms_6 {l : Launch} {d : zD} {F : zF} {k n : Nat} {lv : List (Option Value)} {pc : Nat} {st : List Value} {own : String} {cc : ByteArray} {nL fr lo : Nat} {h : Nat → Nat} {σ : zS} {i x : Int32} {β : Type} {f : zS → Option β} {out : β} (pc' : Nat) (C : zOk d F own cc nL fr lo) (hd : decode cc pc = .ok (.iastore, 1)) (hp : pc + 1 = pc') (hf : zin i 6 (zlt (zsa σ 6 i x) f) = some out) (K : ∀ σ', f σ' = some out → V l d F k n (MW d h σ') lv pc' st) : V l d F k n (MW d h σ) lv pc (.int x :: .int i :: .ref (h 6) :: st) := zr_iast 6 rfl rfl pc' C hd hp hf (fun hf => K (zsa σ 6 i x) hf)
theorem ml_7 {l : Launch} {d : zD} {F : zF} {k n : Nat} {lv : List (Option Value)} {pc : Nat} {st : List Value} {own : String} {cc : ByteArray} {nL fr lo : Nat} {h : Nat → Nat} {σ : zS} {i : Int32} {β : Type} {X : Option β} {out : β} (pc' : Nat) (C : zOk d F own cc nL fr lo) (hd : decode cc pc = .ok (.iaload, 1)) (hp : pc + 1 = pc') (hf : zin i 6 X = some out) (K : X = some out → V l d F k n (MW d h σ) lv pc' (.int (σ.2 7 i.toNatClampNeg) :: st)) : V l d F k n (MW d h σ) lv pc (.int i :: .ref (h 7) :: st) := zr_iald 7 rfl pc' C hd hp hf K
theorem ms_7 {l : Launch} {d : zD} {F : zF} {k n : Nat} {lv : List (Option Value)} {pc : Nat} {st : List Value} {own : String} {cc : ByteArray} {nL fr lo : Nat} {h : Nat → Nat} {σ : zS} {i x : Int32} {β : Type} {f : zS → Option β} {out : β} (pc' : Nat) (C : zOk d F own cc nL fr lo) (hd : decode cc pc = .ok (.iastore, 1)) (hp : pc + 1 = pc') (hf : zin i 6 (zlt (zsa σ 7 i x) f) = some out) (K : ∀ σ', f σ' = some out → V l d F k n (MW d h σ') lv pc' st) : V l d F k n (MW d h σ) lv pc (.int x :: .int i :: .ref (h 7) :: st) := zr_iast 7 rfl rfl pc' C hd hp hf (fun hf => K (zsa σ 7 i x) hf)
theorem ml_8 {l : Launch} {d : zD} {F : zF} {k n : Nat} {lv : List (Option Value)} {pc : Nat} {st : List Value} {own : String} {cc : ByteArray} {nL fr lo : Nat} {h : Nat → Nat} {σ : zS} {i : Int32} {β : Type} {X : Option β} {out : β} (pc' : Nat) (C : zOk d F own cc nL fr lo) (hd : decode cc pc = .ok (.iaload, 1)) (hp : pc + 1 = pc') (hf : zin i 6 X = some out) (K : X = some out → V l d F k n (MW d h σ) lv pc' (.int (σ.2 8 i.toNatClampNeg) :: st)) : V l d F k n (MW d h σ) lv pc (.int i :: .ref (h 8) :: st) := zr_iald 8 rfl pc' C hd hp hf K
theorem ms_8 {l : Launch} {d : zD} {F : zF} {k n : Nat} {lv : List (Option Value)} {pc : Nat} {st : List Value} {own : String} {cc : ByteArray} {nL fr lo : Nat} {h : Nat → Nat} {σ : zS} {i x : Int32} {β : Type} {f : zS → Option β} {out : β} (pc' : Nat) (C : zOk d F own cc nL fr lo) (hd : decode cc pc = .ok (.iastore, 1)) (hp : pc + 1 = pc') (hf : zin i 6 (zlt (zsa σ 8 i x) f) = some out) (K : ∀ σ', f σ' = some out → V l d F k n (MW d h σ') lv pc' st) : V l d F k n (MW d h σ) lv pc (.int x :: .int i :: .ref (h 8) :: st) := zr_iast 8 rfl rfl pc' C hd hp hf (fun hf => K (zsa σ 8 i x) hf)
theorem ml_9 {l : Launch} {d : zD} {F : zF} {k n : Nat} {lv : List (Option Value)} {pc : Nat} {st : List Value} {own : String} {cc : ByteArray} {nL fr lo : Nat} {h : Nat → Nat} {σ : zS} {i : Int32} {β : Type} {X : Option β} {out : β} (pc' : Nat) (C : zOk d F own cc nL fr lo) (hd : decode cc pc = .ok (.iaload, 1)) (hp : pc + 1 = pc') (hf : zin i 6 X = some out) (K : X = some out → V l d F k n (MW d h σ) lv pc' (.int (σ.2 9 i.toNatClampNeg) :: st)) : V l d F k n (MW d h σ) lv pc (.int i :: .ref (h 9) :: st) := zr_iald 9 rfl pc' C hd hp hf K
theorem ms_9 {l : Launch} {d : zD} {F : zF} {k n : Nat} {lv : List (Option Value)} {pc : Nat} {st : List Value} {own : String} {cc : ByteArray} {nL fr lo : Nat} {h : Nat → Nat} {σ : zS} {i x : Int32} {β : Type} {f : zS → Option β} {out : β} (pc' : Nat) (C : zOk d F own cc nL fr lo) (hd : decode cc pc = .ok (.iastore, 1)) (hp : pc + 1 = pc') (hf : zin i 6 (zlt (zsa σ 9 i x) f) = some out) (K : ∀ σ', f σ' = some out → V l d F k n (MW d h σ') lv pc' st) : V l d F k n (MW d h σ) lv pc (.int x :: .int i :: .ref (h 9) :: st) := zr_iast 9 rfl rfl pc' C hd hp hf (fun hf => K (zsa σ 9 i x) hf)
theorem ml_10 {l : Launch} {d : zD} {F : zF} {k n : Nat} {lv : List (Option Value)} {pc : Nat} {st : List Value} {own : String} {cc : ByteArray} {nL fr lo : Nat} {h : Nat → Nat} {σ : zS} {i : Int32} {β : Type} {X : Option β} {out : β} (pc' : Nat) (C : zOk d F own cc nL fr lo) (hd : decode cc pc = .ok (.iaload, 1)) (hp : pc + 1 = pc') (hf : zin i 6 X = some out) (K : X = some out → V l d F k n (MW d h σ) lv pc' (.int (σ.2 10 i.toNatClampNeg) :: st)) : V l d F k n (MW d h σ) lv pc (.int i :: .ref (h 10) :: st) := zr_iald 10 rfl pc' C hd hp hf K
theorem ms_10 {l : Launch} {d : zD} {F : zF} {k n : Nat} {lv : List (Option Value)} {pc : Nat} {st : List Value} {own : String} {cc : ByteArray} {nL fr lo : Nat} {h : Nat → Nat} {σ : zS} {i x : Int32} {β : Type} {f : zS → Option β} {out : β} (pc' : Nat) (C : zOk d F own cc nL fr lo) (hd : decode cc pc = .ok (.iastore, 1)) (hp : pc + 1 = pc') (hf : zin i 6 (zlt (zsa σ 10 i x) f) = some out) (K : ∀ σ', f σ' = some out → V l d F k n (MW d h σ') lv pc' st) : V l d F k n (MW d h σ) lv pc (.int x :: .int i :: .ref (h 10) :: st) := zr_iast 10 rfl rfl pc' C hd hp hf (fun hf => K (zsa σ 10 i x) hf)
theorem ml_11 {l : Launch} {d : zD} {F : zF} {k n : Nat} {lv : List (Option Value)} {pc : Nat} {st : List Value} {own : String} {cc : ByteArray} {nL fr lo : Nat} {h : Nat → Nat} {σ : zS} {i : Int32} {β : Type} {X : Option β} {out : β} (pc' : Nat) (C : zOk d F own cc nL fr lo) (hd : decode cc pc = .ok (.iaload, 1)) (hp : pc + 1 = pc') (hf : zin i 8 X = some out) (K : X = some out → V l d F k n (MW d h σ) lv pc' (.int (σ.2 11 i.toNatClampNeg) :: st)) : V l d F k n (MW d h σ) lv pc (.int i :: .ref (h 11) :: st) := zr_iald 11 rfl pc' C hd hp hf K
theorem ms_11 {l : Launch} {d : zD} {F : zF} {k n : Nat} {lv : List (Option Value)} {pc : Nat} {st : List Value} {own : String} {cc : ByteArray} {nL fr lo : Nat} {h : Nat → Nat} {σ : zS} {i x : Int32} {β : Type} {f : zS → Option β} {out : β} (pc' : Nat) (C : zOk d F own cc nL fr lo) (hd : decode cc pc = .ok (.iastore, 1)) (hp : pc + 1 = pc') (hf : zin i 8 (zlt (zsa σ 11 i x) f) = some out) (K : ∀ σ', f σ' = some out → V l d F k n (MW d h σ') lv pc' st) : V l d F k n (MW d h σ) lv pc (.int x :: .int i :: .ref (h 11) :: st) := zr_iast 11 rfl rfl pc' C hd hp hf (fun hf => K (zsa σ 11 i x) hf)
theorem ml_12 {l : Launch} {d : zD} {F : zF} {k n : Nat} {lv : List (Option Value)} {pc : Nat} {st : List Value} {own : String} {cc : ByteArray} {nL fr lo : Nat} {h : Nat → Nat} {σ : zS} {i : Int32} {β : Type} {X : Option β} {out : β} (pc' : Nat) (C : zOk d F own cc nL fr lo) (hd : decode cc pc = .ok (.iaload, 1)) (hp : pc + 1 = pc') (hf : zin i 8 X = some out) (K : X = some out → V l d F k n (MW d h σ) lv pc' (.int (σ.2 12 i.toNatClampNeg) :: st)) : V l d F k n (MW d h σ) lv pc (.int i :: .ref (h 12) :: st) := zr_iald 12 rfl pc' C hd hp hf K
theorem ms_12 {l : Launch} {d : zD} {F : zF} {k n : Nat} {lv : List (Option Value)} {pc : Nat} {st : List Value} {own : String} {cc : ByteArray} {nL fr lo : Nat} {h : Nat → Nat} {σ : zS} {i x : Int32} {β : Type} {f : zS → Option β} {out : β} (pc' : Nat) (C : zOk d F own cc nL fr lo) (hd : decode cc pc = .ok (.iastore, 1)) (hp : pc + 1 = pc') (hf : zin i 8 (zlt (zsa σ 12 i x) f) = some out) (K : ∀ σ', f σ' = some out → V l d F k n (MW d h σ') lv pc' st) : V l d F k n (MW d h σ) lv pc (.int x :: .int i :: .ref (h 12) :: st) := zr_iast 12 rfl rfl pc' C hd hp hf (fun hf => K (zsa σ 12 i x) hf)
theorem ml_13 {l : Launch} {d : zD} {F : zF} {k n : Nat} {lv : List (Option Value)} {pc : Nat} {st : List Value} {own : String} {cc : ByteArray} {nL fr lo : Nat} {h : Nat → Nat} {σ : zS} {i : Int32} {β : Type} {X : Option β} {out : β} (pc' : Nat) (C : zOk d F own cc nL fr lo) (hd : decode cc pc = .ok (.iaload, 1)) (hp : pc + 1 = pc') (hf : zin i 10 X = some out) (K : X = some out → V l d F k n (MW d h σ) lv pc' (.int (σ.2 13 i.toNatClampNeg) :: st)) : V l d F k n (MW d h σ) lv pc (.int i :: .ref (h 13) :: st) := zr_iald 13 rfl pc' C hd hp hf K
theorem ms_13 {l : Launch} {d : zD} {F : zF} {k n : Nat} {lv : List (Option Value)} {pc : Nat} {st : List Value} {own : String} {cc : ByteArray} {nL fr lo : Nat} {h : Nat → Nat} {σ : zS} {i x : Int32} {β : Type} {f : zS → Option β} {out : β} (pc' : Nat) (C : zOk d F own cc nL fr lo) (hd : decode cc pc = .ok (.iastore, 1)) (hp : pc + 1 = pc') (hf : zin i 10 (zlt (zsa σ 13 i x) f) = some out) (K : ∀ σ', f σ' = some out → V l d F k n (MW d h σ') lv pc' st) : V l d F k n (MW d h σ) lv pc (.int x :: .int i :: .ref (h 13) :: st) := zr_iast 13 rfl rfl pc' C hd hp hf (fun hf => K (zsa σ 13 i x) hf)
theorem ml_14 {l : Launch} {d : zD} {F : zF} {k n : Nat} {lv : List (Option Value)} {pc : Nat} {st : List Value} {own : String} {cc : ByteArray} {nL fr lo : Nat} {h : Nat → Nat} {σ : zS} {i : Int32} {β : Type} {X : Option β} {out : β} (pc' : Nat) (C : zOk d F own cc nL fr lo) (hd : decode cc pc = .ok (.iaload, 1)) (hp : pc + 1 = pc') (hf : zin i 160 X = some out) (K : X = some out → V l d F k n (MW d h σ) lv pc' (.int (σ.2 14 i.toNatClampNeg) :: st)) : V l d F k n (MW d h σ) lv pc (.int i :: .ref (h 14) :: st) := zr_iald 14 rfl pc' C hd hp hf K
theorem ms_14 {l : Launch} {d : zD} {F : zF} {k n : Nat} {lv : List (Option Value)} {pc : Nat} {st : List Value} {own : String} {cc : ByteArray} {nL fr lo : Nat} {h : Nat → Nat} {σ : zS} {i x : Int32} {β : Type} {f : zS → Option β} {out : β} (pc' : Nat) (C : zOk d F own cc nL fr lo) (hd : decode cc pc = .ok (.iastore, 1)) (hp : pc + 1 = pc') (hf : zin i 160 (zlt (zsa σ 14 i x) f) = some out) (K : ∀ σ', f σ' = some out → V l d F k n (MW d h σ') lv pc' st) : V l d F k n (MW d h σ) lv pc (.int x :: .int i :: .ref (h 14) :: st) := zr_iast 14 rfl rfl pc' C hd hp hf (fun hf => K (zsa σ 14 i x) hf)
theorem ml_15 {l : Launch} {d : zD} {F : zF} {k n : Nat} {lv : List (Option Value)} {pc : Nat} {st : List Value} {own : String} {cc : ByteArray} {nL fr lo : Nat} {h : Nat → Nat} {σ : zS} {i : Int32} {β : Type} {X : Option β} {out : β} (pc' : Nat) (C : zOk d F own cc nL fr lo) (hd : decode cc pc = .ok (.iaload, 1)) (hp : pc + 1 = pc') (hf : zin i 1200 X = some out) (K : X = some out → V l d F k n (MW d h σ) lv pc' (.int (σ.2 15 i.toNatClampNeg) :: st)) : V l d F k n (MW d h σ) lv pc (.int i :: .ref (h 15) :: st) := zr_iald 15 rfl pc' C hd hp hf K
theorem ms_15 {l : Launch} {d : zD} {F : zF} {k n : Nat} {lv : List (Option Value)} {pc : Nat} {st : List Value} {own : String} {cc : ByteArray} {nL fr lo : Nat} {h : Nat → Nat} {σ : zS} {i x : Int32} {β : Type} {f : zS → Option β} {out : β} (pc' : Nat) (C : zOk d F own cc nL fr lo) (hd : decode cc pc = .ok (.iastore, 1)) (hp : pc + 1 = pc') (hf : zin i 1200 (zlt (zsa σ 15 i x) f) = some out) (K : ∀ σ', f σ' = some out → V l d F k n (MW d h σ') lv pc' st) : V l d F k n (MW d h σ) lv pc (.int x :: .int i :: .ref (h 15) :: st) := zr_iast 15 rfl rfl pc' C hd hp hf (fun hf => K (zsa σ 15 i x) hf)
theorem ml_16 {l : Launch} {d : zD} {F : zF} {k n : Nat} {lv : List (Option Value)} {pc : Nat} {st : List Value} {own : String} {cc : ByteArray} {nL fr lo : Nat} {h : Nat → Nat} {σ : zS} {i : Int32} {β : Type} {X : Option β} {out : β} (pc' : Nat) (C : zOk d F own cc nL fr lo) (hd : decode cc pc = .ok (.iaload, 1)) (hp : pc + 1 = pc') (hf : zin i 24 X = some out) (K : X = some out → V l d F k n (MW d h σ) lv pc' (.int (σ.2 16 i.toNatClampNeg) :: st)) : V l d F k n (MW d h σ) lv pc (.int i :: .ref (h 16) :: st) := zr_iald 16 rfl pc' C hd hp hf K
theorem ms_16 {l : Launch} {d : zD} {F : zF} {k n : Nat} {lv : List (Option Value)} {pc : Nat} {st : List Value} {own : String} {cc : ByteArray} {nL fr lo : Nat} {h : Nat → Nat} {σ : zS} {i x : Int32} {β : Type} {f : zS → Option β} {out : β} (pc' : Nat) (C : zOk d F own cc nL fr lo) (hd : decode cc pc = .ok (.iastore, 1)) (hp : pc + 1 = pc') (hf : zin i 24 (zlt (zsa σ 16 i x) f) = some out) (K : ∀ σ', f σ' = some out → V l d F k n (MW d h σ') lv pc' st) : V l d F k n (MW d h σ) lv pc (.int x :: .int i :: .ref (h 16) :: st) := zr_iast 16 rfl rfl pc' C hd hp hf (fun hf => K (zsa σ 16 i x) hf)
theorem ml_17 {l : Launch} {d : zD} {F : zF} {k n : Nat} {lv : List (Option Value)} {pc : Nat} {st : List Value} {own : String} {cc : ByteArray} {nL fr lo : Nat} {h : Nat → Nat} {σ : zS} {i : Int32} {β : Type} {X : Option β} {out : β} (pc' : Nat) (C : zOk d F own cc nL fr lo) (hd : decode cc pc = .ok (.iaload, 1)) (hp : pc + 1 = pc') (hf : zin i 20 X = some out) (K : X = some out → V l d F k n (MW d h σ) lv pc' (.int (σ.2 17 i.toNatClampNeg) :: st)) : V l d F k n (MW d h σ) lv pc (.int i :: .ref (h 17) :: st) := zr_iald 17 rfl pc' C hd hp hf K
theorem ms_17 {l : Launch} {d : zD} {F : zF} {k n : Nat} {lv : List (Option Value)} {pc : Nat} {st : List Value} {own : String} {cc : ByteArray} {nL fr lo : Nat} {h : Nat → Nat} {σ : zS} {i x : Int32} {β : Type} {f : zS → Option β} {out : β} (pc' : Nat) (C : zOk d F own cc nL fr lo) (hd : decode cc pc = .ok (.iastore, 1)) (hp : pc + 1 = pc') (hf : zin i 20 (zlt (zsa σ 17 i x) f) = some out) (K : ∀ σ', f σ' = some out → V l d F k n (MW d h σ') lv pc' st) : V l d F k n (MW d h σ) lv pc (.int x :: .int i :: .ref (h 17) :: st) := zr_iast 17 rfl rfl pc' C hd hp hf (fun hf => K (zsa σ 17 i x) hf)
theorem ml_18 {l : Launch} {d : zD} {F : zF} {k n : Nat} {lv : List (Option Value)} {pc : Nat} {st : List Value} {own : String} {cc : ByteArray} {nL fr lo : Nat} {h : Nat → Nat} {σ : zS} {i : Int32} {β : Type} {X : Option β} {out : β} (pc' : Nat) (C : zOk d F own cc nL fr lo) (hd : decode cc pc = .ok (.iaload, 1)) (hp : pc + 1 = pc') (hf : zin i 8 X = some out) (K : X = some out → V l d F k n (MW d h σ) lv pc' (.int (σ.2 18 i.toNatClampNeg) :: st)) : V l d F k n (MW d h σ) lv pc (.int i :: .ref (h 18) :: st) := zr_iald 18 rfl pc' C hd hp hf K
theorem ms_18 {l : Launch} {d : zD} {F : zF} {k n : Nat} {lv : List (Option Value)} {pc : Nat} {st : List Value} {own : String} {cc : ByteArray} {nL fr lo : Nat} {h : Nat → Nat} {σ : zS} {i x : Int32} {β : Type} {f : zS → Option β} {out : β} (pc' : Nat) (C : zOk d F own cc nL fr lo) (hd : decode cc pc = .ok (.iastore, 1)) (hp : pc + 1 = pc') (hf : zin i 8 (zlt (zsa σ 18 i x) f) = some out) (K : ∀ σ', f σ' = some out → V l d F k n (MW d h σ') lv pc' st) : V l d F k n (MW d h σ) lv pc (.int x :: .int i :: .ref (h 18) :: st) := zr_iast 18 rfl rfl pc' C hd hp hf (fun hf => K (zsa σ 18 i x) hf)
theorem ml_19 {l : Launch} {d : zD} {F : zF} {k n : Nat} {lv : List (Option Value)} {pc : Nat} {st : List Value} {own : String} {cc : ByteArray} {nL fr lo : Nat} {h : Nat → Nat} {σ : zS} {i : Int32} {β : Type} {X : Option β} {out : β} (pc' : Nat) (C : zOk d F own cc nL fr lo) (hd : decode cc pc = .ok (.iaload, 1)) (hp : pc + 1 = pc') (hf : zin i 4 X = some out) (K : X = some out → V l d F k n (MW d h σ) lv pc' (.int (σ.2 19 i.toNatClampNeg) :: st)) : V l d F k n (MW d h σ) lv pc (.int i :: .ref (h 19) :: st) := zr_iald 19 rfl pc' C hd hp hf K
theorem ms_19 {l : Launch} {d : zD} {F : zF} {k n : Nat} {lv : List (Option Value)} {pc : Nat} {st : List Value} {own : String} {cc : ByteArray} {nL fr lo : Nat} {h : Nat → Nat} {σ : zS} {i x : Int32} {β : Type} {f : zS → Option β} {out : β} (pc' : Nat) (C : zOk d F own cc nL fr lo) (hd : decode cc pc = .ok (.iastore, 1)) (hp : pc + 1 = pc') (hf : zin i 4 (zlt (zsa σ 19 i x) f) = some out) (K : ∀ σ', f σ' = some out → V l d F k n (MW d h σ') lv pc' st) : V l d F k n (MW d h σ) lv pc (.int x :: .int i :: .ref (h 19) :: st) := zr_iast 19 rfl rfl pc' C hd hp hf (fun hf => K (zsa σ 19 i x) hf)
theorem ml_20 {l : Launch} {d : zD} {F : zF} {k n : Nat} {lv : List (Option Value)} {pc : Nat} {st : List Value} {own : String} {cc : ByteArray} {nL fr lo : Nat} {h : Nat → Nat} {σ : zS} {i : Int32} {β : Type} {X : Option β} {out : β} (pc' : Nat) (C : zOk d F own cc nL fr lo) (hd : decode cc pc = .ok (.iaload, 1)) (hp : pc + 1 = pc') (hf : zin i 4 X = some out) (K : X = some out → V l d F k n (MW d h σ) lv pc' (.int (σ.2 20 i.toNatClampNeg) :: st)) : V l d F k n (MW d h σ) lv pc (.int i :: .ref (h 20) :: st) := zr_iald 20 rfl pc' C hd hp hf K
theorem ms_20 {l : Launch} {d : zD} {F : zF} {k n : Nat} {lv : List (Option Value)} {pc : Nat} {st : List Value} {own : String} {cc : ByteArray} {nL fr lo : Nat} {h : Nat → Nat} {σ : zS} {i x : Int32} {β : Type} {f : zS → Option β} {out : β} (pc' : Nat) (C : zOk d F own cc nL fr lo) (hd : decode cc pc = .ok (.iastore, 1)) (hp : pc + 1 = pc') (hf : zin i 4 (zlt (zsa σ 20 i x) f) = some out) (K : ∀ σ', f σ' = some out → V l d F k n (MW d h σ') lv pc' st) : V l d F k n (MW d h σ) lv pc (.int x :: .int i :: .ref (h 20) :: st) := zr_iast 20 rfl rfl pc' C hd hp hf (fun hf => K (zsa σ 20 i x) hf)
theorem ml_21 {l : Launch} {d : zD} {F : zF} {k n : Nat} {lv : List (Option Value)} {pc : Nat} {st : List Value} {own : String} {cc : ByteArray} {nL fr lo : Nat} {h : Nat → Nat} {σ : zS} {i : Int32} {β : Type} {X : Option β} {out : β} (pc' : Nat) (C : zOk d F own cc nL fr lo) (hd : decode cc pc = .ok (.iaload, 1)) (hp : pc + 1 = pc') (hf : zin i 160 X = some out) (K : X = some out → V l d F k n (MW d h σ) lv pc' (.int (σ.2 21 i.toNatClampNeg) :: st)) : V l d F k n (MW d h σ) lv pc (.int i :: .ref (h 21) :: st) := zr_iald 21 rfl pc' C hd hp hf K
theorem ms_21 {l : Launch} {d : zD} {F : zF} {k n : Nat} {lv : List (Option Value)} {pc : Nat} {st : List Value} {own : String} {cc : ByteArray} {nL fr lo : Nat} {h : Nat → Nat} {σ : zS} {i x : Int32} {β : Type} {f : zS → Option β} {out : β} (pc' : Nat) (C : zOk d F own cc nL fr lo) (hd : decode cc pc = .ok (.iastore, 1)) (hp : pc + 1 = pc') (hf : zin i 160 (zlt (zsa σ 21 i x) f) = some out) (K : ∀ σ', f σ' = some out → V l d F k n (MW d h σ') lv pc' st) : V l d F k n (MW d h σ) lv pc (.int x :: .int i :: .ref (h 21) :: st) := zr_iast 21 rfl rfl pc' C hd hp hf (fun hf => K (zsa σ 21 i x) hf)
theorem ml_22 {l : Launch} {d : zD} {F : zF} {k n : Nat} {lv : List (Option Value)} {pc : Nat} {st : List Value} {own : String} {cc : ByteArray} {nL fr lo : Nat} {h : Nat → Nat} {σ : zS} {i : Int32} {β : Type} {X : Option β} {out : β} (pc' : Nat) (C : zOk d F own cc nL fr lo) (hd : decode cc pc = .ok (.laload, 1)) (hp : pc + 1 = pc') (hf : zin i 11 X = some out) (K : X = some out → V l d F k n (MW d h σ) lv pc' (.long (zWords i.toNatClampNeg) :: st)) : V l d F k n (MW d h σ) lv pc (.int i :: .ref (h 22) :: st) := zr_lald 22 rfl pc' C hd hp hf K
theorem ml_23 {l : Launch} {d : zD} {F : zF} {k n : Nat} {lv : List (Option Value)} {pc : Nat} {st : List Value} {own : String} {cc : ByteArray} {nL fr lo : Nat} {h : Nat → Nat} {σ : zS} {i : Int32} {β : Type} {X : Option β} {out : β} (pc' : Nat) (C : zOk d F own cc nL fr lo) (hd : decode cc pc = .ok (.iaload, 1)) (hp : pc + 1 = pc') (hf : zin i 200 X = some out) (K : X = some out → V l d F k n (MW d h σ) lv pc' (.int (σ.2 23 i.toNatClampNeg) :: st)) : V l d F k n (MW d h σ) lv pc (.int i :: .ref (h 23) :: st) := zr_iald 23 rfl pc' C hd hp hf K
theorem ms_23 {l : Launch} {d : zD} {F : zF} {k n : Nat} {lv : List (Option Value)} {pc : Nat} {st : List Value} {own : String} {cc : ByteArray} {nL fr lo : Nat} {h : Nat → Nat} {σ : zS} {i x : Int32} {β : Type} {f : zS → Option β} {out : β} (pc' : Nat) (C : zOk d F own cc nL fr lo) (hd : decode cc pc = .ok (.iastore, 1)) (hp : pc + 1 = pc') (hf : zin i 200 (zlt (zsa σ 23 i x) f) = some out) (K : ∀ σ', f σ' = some out → V l d F k n (MW d h σ') lv pc' st) : V l d F k n (MW d h σ) lv pc (.int x :: .int i :: .ref (h 23) :: st) := zr_iast 23 rfl rfl pc' C hd hp hf (fun hf => K (zsa σ 23 i x) hf)
theorem ml_24 {l : Launch} {d : zD} {F : zF} {k n : Nat} {lv : List (Option Value)} {pc : Nat} {st : List Value} {own : String} {cc : ByteArray} {nL fr lo : Nat} {h : Nat → Nat} {σ : zS} {i : Int32} {β : Type} {X : Option β} {out : β} (pc' : Nat) (C : zOk d F own cc nL fr lo) (hd : decode cc pc = .ok (.iaload, 1)) (hp : pc + 1 = pc') (hf : zin i 200 X = some out) (K : X = some out → V l d F k n (MW d h σ) lv pc' (.int (σ.2 24 i.toNatClampNeg) :: st)) : V l d F k n (MW d h σ) lv pc (.int i :: .ref (h 24) :: st) := zr_iald 24 rfl pc' C hd hp hf K
theorem ms_24 {l : Launch} {d : zD} {F : zF} {k n : Nat} {lv : List (Option Value)} {pc : Nat} {st : List Value} {own : String} {cc : ByteArray} {nL fr lo : Nat} {h : Nat → Nat} {σ : zS} {i x : Int32} {β : Type} {f : zS → Option β} {out : β} (pc' : Nat) (C : zOk d F own cc nL fr lo) (hd : decode cc pc = .ok (.iastore, 1)) (hp : pc + 1 = pc') (hf : zin i 200 (zlt (zsa σ 24 i x) f) = some out) (K : ∀ σ', f σ' = some out → V l d F k n (MW d h σ') lv pc' st) : V l d F k n (MW d h σ) lv pc (.int x :: .int i :: .ref (h 24) :: st) := zr_iast 24 rfl rfl pc' C hd hp hf (fun hf => K (zsa σ 24 i x) hf)
theorem ml_25 {l : Launch} {d : zD} {F : zF} {k n : Nat} {lv : List (Option Value)} {pc : Nat} {st : List Value} {own : String} {cc : ByteArray} {nL fr lo : Nat} {h : Nat → Nat} {σ : zS} {i : Int32} {β : Type} {X : Option β} {out : β} (pc' : Nat) (C : zOk d F own cc nL fr lo) (hd : decode cc pc = .ok (.iaload, 1)) (hp : pc + 1 = pc') (hf : zin i 6 X = some out) (K : X = some out → V l d F k n (MW d h σ) lv pc' (.int (σ.2 25 i.toNatClampNeg) :: st)) : V l d F k n (MW d h σ) lv pc (.int i :: .ref (h 25) :: st) := zr_iald 25 rfl pc' C hd hp hf K
theorem ms_25 {l : Launch} {d : zD} {F : zF} {k n : Nat} {lv : List (Option Value)} {pc : Nat} {st : List Value} {own : String} {cc : ByteArray} {nL fr lo : Nat} {h : Nat → Nat} {σ : zS} {i x : Int32} {β : Type} {f : zS → Option β} {out : β} (pc' : Nat) (C : zOk d F own cc nL fr lo) (hd : decode cc pc = .ok (.iastore, 1)) (hp : pc + 1 = pc') (hf : zin i 6 (zlt (zsa σ 25 i x) f) = some out) (K : ∀ σ', f σ' = some out → V l d F k n (MW d h σ') lv pc' st) : V l d F k n (MW d h σ) lv pc (.int x :: .int i :: .ref (h 25) :: st) := zr_iast 25 rfl rfl pc' C hd hp hf (fun hf => K (zsa σ 25 i x) hf)
theorem ml_26 {l : Launch} {d : zD} {F : zF} {k n : Nat} {lv : List (Option Value)} {pc : Nat} {st : List Value} {own : String} {cc : ByteArray} {nL fr lo : Nat} {h : Nat → Nat} {σ : zS} {i : Int32} {β : Type} {X : Option β} {out : β} (pc' : Nat) (C : zOk d F own cc nL fr lo) (hd : decode cc pc = .ok (.baload, 1)) (hp : pc + 1 = pc') (hf : zin i 1600 X = some out) (K : X = some out → V l d F k n (MW d h σ) lv pc' (.int (σ.2 26 i.toNatClampNeg) :: st)) : V l d F k n (MW d h σ) lv pc (.int i :: .ref (h 26) :: st) := zr_zald 26 rfl pc' C hd hp hf K
theorem ms_26 {l : Launch} {d : zD} {F : zF} {k n : Nat} {lv : List (Option Value)} {pc : Nat} {st : List Value} {own : String} {cc : ByteArray} {nL fr lo : Nat} {h : Nat → Nat} {σ : zS} {i x : Int32} {β : Type} {f : zS → Option β} {out : β} (pc' : Nat) (C : zOk d F own cc nL fr lo) (hd : decode cc pc = .ok (.bastore, 1)) (hp : pc + 1 = pc') (hf : zin i 1600 (zlt (zsa σ 26 i (vp_nar .boolean x)) f) = some out) (K : ∀ σ', f σ' = some out → V l d F k n (MW d h σ') lv pc' st) : V l d F k n (MW d h σ) lv pc (.int x :: .int i :: .ref (h 26) :: st) := zr_zast 26 rfl rfl pc' C hd hp hf (fun hf => K (zsa σ 26 i (vp_nar .boolean x)) hf)
theorem ml_27 {l : Launch} {d : zD} {F : zF} {k n : Nat} {lv : List (Option Value)} {pc : Nat} {st : List Value} {own : String} {cc : ByteArray} {nL fr lo : Nat} {h : Nat → Nat} {σ : zS} {i : Int32} {β : Type} {X : Option β} {out : β} (pc' : Nat) (C : zOk d F own cc nL fr lo) (hd : decode cc pc = .ok (.baload, 1)) (hp : pc + 1 = pc') (hf : zin i 1600 X = some out) (K : X = some out → V l d F k n (MW d h σ) lv pc' (.int (σ.2 27 i.toNatClampNeg) :: st)) : V l d F k n (MW d h σ) lv pc (.int i :: .ref (h 27) :: st) := zr_zald 27 rfl pc' C hd hp hf K
theorem ms_27 {l : Launch} {d : zD} {F : zF} {k n : Nat} {lv : List (Option Value)} {pc : Nat} {st : List Value} {own : String} {cc : ByteArray} {nL fr lo : Nat} {h : Nat → Nat} {σ : zS} {i x : Int32} {β : Type} {f : zS → Option β} {out : β} (pc' : Nat) (C : zOk d F own cc nL fr lo) (hd : decode cc pc = .ok (.bastore, 1)) (hp : pc + 1 = pc') (hf : zin i 1600 (zlt (zsa σ 27 i (vp_nar .boolean x)) f) = some out) (K : ∀ σ', f σ' = some out → V l d F k n (MW d h σ') lv pc' st) : V l d F k n (MW d h σ) lv pc (.int x :: .int i :: .ref (h 27) :: st) := zr_zast 27 rfl rfl pc' C hd hp hf (fun hf => K (zsa σ 27 i (vp_nar .boolean x)) hf)
theorem ml_28 {l : Launch} {d : zD} {F : zF} {k n : Nat} {lv : List (Option Value)} {pc : Nat} {st : List Value} {own : String} {cc : ByteArray} {nL fr lo : Nat} {h : Nat → Nat} {σ : zS} {i : Int32} {β : Type} {X : Option β} {out : β} (pc' : Nat) (C : zOk d F own cc nL fr lo) (hd : decode cc pc = .ok (.iaload, 1)) (hp : pc + 1 = pc') (hf : zin i 1600 X = some out) (K : X = some out → V l d F k n (MW d h σ) lv pc' (.int (σ.2 28 i.toNatClampNeg) :: st)) : V l d F k n (MW d h σ) lv pc (.int i :: .ref (h 28) :: st) := zr_iald 28 rfl pc' C hd hp hf K
theorem ms_28 {l : Launch} {d : zD} {F : zF} {k n : Nat} {lv : List (Option Value)} {pc : Nat} {st : List Value} {own : String} {cc : ByteArray} {nL fr lo : Nat} {h : Nat → Nat} {σ : zS} {i x : Int32} {β : Type} {f : zS → Option β} {out : β} (pc' : Nat) (C : zOk d F own cc nL fr lo) (hd : decode cc pc = .ok (.iastore, 1)) (hp : pc + 1 = pc') (hf : zin i 1600 (zlt (zsa σ 28 i x) f) = some out) (K : ∀ σ', f σ' = some out → V l d F k n (MW d h σ') lv pc' st) : V l d F k n (MW d h σ) lv pc (.int x :: .int i :: .ref (h 28) :: st) := zr_iast 28 rfl rfl pc' C hd hp hf (fun hf => K (zsa σ 28 i x) hf)
theorem ml_29 {l : Launch} {d : zD} {F : zF} {k n : Nat} {lv : List (Option Value)} {pc : Nat} {st : List Value} {own : String} {cc : ByteArray} {nL fr lo : Nat} {h : Nat → Nat} {σ : zS} {i : Int32} {β : Type} {X : Option β} {out : β} (pc' : Nat) (C : zOk d F own cc nL fr lo) (hd : decode cc pc = .ok (.iaload, 1)) (hp : pc + 1 = pc') (hf : zin i 1600 X = some out) (K : X = some out → V l d F k n (MW d h σ) lv pc' (.int (σ.2 29 i.toNatClampNeg) :: st)) : V l d F k n (MW d h σ) lv pc (.int i :: .ref (h 29) :: st) := zr_iald 29 rfl pc' C hd hp hf K
theorem ms_29 {l : Launch} {d : zD} {F : zF} {k n : Nat} {lv : List (Option Value)} {pc : Nat} {st : List Value} {own : String} {cc : ByteArray} {nL fr lo : Nat} {h : Nat → Nat} {σ : zS} {i x : Int32} {β : Type} {f : zS → Option β} {out : β} (pc' : Nat) (C : zOk d F own cc nL fr lo) (hd : decode cc pc = .ok (.iastore, 1)) (hp : pc + 1 = pc') (hf : zin i 1600 (zlt (zsa σ 29 i x) f) = some out) (K : ∀ σ', f σ' = some out → V l d F k n (MW d h σ') lv pc' st) : V l d F k n (MW d h σ) lv pc (.int x :: .int i :: .ref (h 29) :: st) := zr_iast 29 rfl rfl pc' C hd hp hf (fun hf => K (zsa σ 29 i x) hf)
theorem ml_30 {l : Launch} {d : zD} {F : zF} {k n : Nat} {lv : List (Option Value)} {pc : Nat} {st : List Value} {own : String} {cc : ByteArray} {nL fr lo : Nat} {h : Nat → Nat} {σ : zS} {i : Int32} {β : Type} {X : Option β} {out : β} (pc' : Nat) (C : zOk d F own cc nL fr lo) (hd : decode cc pc = .ok (.baload, 1)) (hp : pc + 1 = pc') (hf : zin i 1600 X = some out) (K : X = some out → V l d F k n (MW d h σ) lv pc' (.int (σ.2 30 i.toNatClampNeg) :: st)) : V l d F k n (MW d h σ) lv pc (.int i :: .ref (h 30) :: st) := zr_zald 30 rfl pc' C hd hp hf K
theorem ms_30 {l : Launch} {d : zD} {F : zF} {k n : Nat} {lv : List (Option Value)} {pc : Nat} {st : List Value} {own : String} {cc : ByteArray} {nL fr lo : Nat} {h : Nat → Nat} {σ : zS} {i x : Int32} {β : Type} {f : zS → Option β} {out : β} (pc' : Nat) (C : zOk d F own cc nL fr lo) (hd : decode cc pc = .ok (.bastore, 1)) (hp : pc + 1 = pc') (hf : zin i 1600 (zlt (zsa σ 30 i (vp_nar .boolean x)) f) = some out) (K : ∀ σ', f σ' = some out → V l d F k n (MW d h σ') lv pc' st) : V l d F k n (MW d h σ) lv pc (.int x :: .int i :: .ref (h 30) :: st) := zr_zast 30 rfl rfl pc' C hd hp hf (fun hf => K (zsa σ 30 i (vp_nar .boolean x)) hf)
theorem ml_31 {l : Launch} {d : zD} {F : zF} {k n : Nat} {lv : List (Option Value)} {pc : Nat} {st : List Value} {own : String} {cc : ByteArray} {nL fr lo : Nat} {h : Nat → Nat} {σ : zS} {i : Int32} {β : Type} {X : Option β} {out : β} (pc' : Nat) (C : zOk d F own cc nL fr lo) (hd : decode cc pc = .ok (.iaload, 1)) (hp : pc + 1 = pc') (hf : zin i 1600 X = some out) (K : X = some out → V l d F k n (MW d h σ) lv pc' (.int (σ.2 31 i.toNatClampNeg) :: st)) : V l d F k n (MW d h σ) lv pc (.int i :: .ref (h 31) :: st) := zr_iald 31 rfl pc' C hd hp hf K
theorem ms_31 {l : Launch} {d : zD} {F : zF} {k n : Nat} {lv : List (Option Value)} {pc : Nat} {st : List Value} {own : String} {cc : ByteArray} {nL fr lo : Nat} {h : Nat → Nat} {σ : zS} {i x : Int32} {β : Type} {f : zS → Option β} {out : β} (pc' : Nat) (C : zOk d F own cc nL fr lo) (hd : decode cc pc = .ok (.iastore, 1)) (hp : pc + 1 = pc') (hf : zin i 1600 (zlt (zsa σ 31 i x) f) = some out) (K : ∀ σ', f σ' = some out → V l d F k n (MW d h σ') lv pc' st) : V l d F k n (MW d h σ) lv pc (.int x :: .int i :: .ref (h 31) :: st) := zr_iast 31 rfl rfl pc' C hd hp hf (fun hf => K (zsa σ 31 i x) hf)
end
section
/-! StepsBeyondModel.in(III)Z -/
def f_M_in (p0 : Int32) (p1 : Int32) (p2 : Int32) (σ : zS) : Option (Int32 × zS) :=
  (if p0 < p1 then
  some (0, σ)
  else
  (if p2 < p0 then
  some (0, σ)
  else
  some (1, σ)))
set_option maxRecDepth 4000 in
theorem m_M_in {l : Launch} {d : zD} {h : Nat → Nat} {out : Int32 × zS} {σ : zS} {p0 : Int32} {p1 : Int32} {p2 : Int32} (hf : f_M_in p0 p1 p2 σ = some out) : zM l yX11_in cX11_in 3 (some .boolean) 0 0 d [.int p0, .int p1, .int p2] (MW d h σ) (MW d h out.2) (some (.int out.1)) := by
  refine zM_of [some (.int p0), some (.int p1), some (.int p2)] (by decide +kernel) rfl (Nat.le_of_ble_eq_true rfl) (fun F C T => ?_)
  unfold f_M_in at hf
  refine zr_iload_n 0 1 C (by decide +kernel) rfl rfl ?_
  refine zr_iload_n 1 2 C (by decide +kernel) rfl rfl ?_
  refine zr_icmp_lt (off := 12) 14 5 C (by decide +kernel) (by decide) rfl hf (fun hf => ?_) (fun hf => ?_)
  · refine zr_iconst (v := 0) 0 15 C (by decide +kernel) rfl rfl ?_
    obtain rfl := Option.some.inj hf
    exact zr_zret C (by decide +kernel) rfl T
  · refine zr_iload_n 0 6 C (by decide +kernel) rfl rfl ?_
    refine zr_iload_n 2 7 C (by decide +kernel) rfl rfl ?_
    refine zr_icmp_gt (off := 7) 14 10 C (by decide +kernel) (by decide) rfl hf (fun hf => ?_) (fun hf => ?_)
    · refine zr_iconst (v := 0) 0 15 C (by decide +kernel) rfl rfl ?_
      obtain rfl := Option.some.inj hf
      exact zr_zret C (by decide +kernel) rfl T
    · refine zr_iconst (v := 1) 1 11 C (by decide +kernel) rfl rfl ?_
      refine zr_goto (off := 4) 15 C (by decide +kernel) (by decide) ?_
      obtain rfl := Option.some.inj hf
      exact zr_zret C (by decide +kernel) rfl T
theorem y_M_in : zY yX11_in cX11_in 3 (some .boolean) 3 := ⟨q_1183, q_90, by decide +kernel, by decide +kernel, by decide +kernel⟩
theorem k_M_in {l : Launch} {d : zD} {F : zF} {h : Nat → Nat} {σ : zS} {lv : List (Option Value)} {pc : Nat} {own : String} {cc : ByteArray} {nL fr lo idx : Nat} {rest : List Value} {β : Type} {kf : Int32 → zS → Option β} {o2 : β} {p0 : Int32} {p1 : Int32} {p2 : Int32} (pc' : Nat) (C : zOk d F own cc nL fr lo) (hd : decode cc pc = .ok (.invokestatic idx, 3)) (hp : pc + 3 = pc') (hq : Cond.methodLink own idx yX11_in ∈ zW) (hm : 0 + 1 ≤ fr ∧ 8 + (3 + 11) + 0 ≤ lo) (hr : (rest.map fun v => v.category).sum ≤ 8) (hf : zbd (f_M_in p0 p1 p2 σ) kf = some o2) (K : ∀ (r : Int32) (σ' : zS), kf r σ' = some o2 → V l d F 0 0 (MW d h σ') lv pc' (.int r :: rest)) : V l d F 0 0 (MW d h σ) lv pc (.int p2 :: .int p1 :: .int p0 :: rest) := by
  obtain ⟨q, h1, h2⟩ := zbd_some hf
  exact zr_callS y_M_in q_1182 (As := [.int p0, .int p1, .int p2]) (m_M_in h1) rfl rfl pc' C hd hp hq hm hr (K _ _ h2)
/-! StepsBeyondModel.isPlace(I)Z -/
def f_M_isPlace (p0 : Int32) (σ : zS) : Option (Int32 × zS) :=
  zbd (f_M_in p0 0 1599 σ) fun r2 σ1 =>
  zbo r2 (some (r2, σ1))
set_option maxRecDepth 4000 in
theorem m_M_isPlace {l : Launch} {d : zD} {h : Nat → Nat} {out : Int32 × zS} {σ : zS} {p0 : Int32} (hf : f_M_isPlace p0 σ = some out) : zM l yX11_isPlace cX11_isPlace 1 (some .boolean) 1 22 d [.int p0] (MW d h σ) (MW d h out.2) (some (.int out.1)) := by
  refine zM_of [some (.int p0)] (by decide +kernel) rfl (Nat.le_of_ble_eq_true rfl) (fun F C T => ?_)
  unfold f_M_isPlace at hf
  refine zr_iload_n 0 1 C (by decide +kernel) rfl rfl ?_
  refine zr_iconst (v := 0) 0 2 C (by decide +kernel) rfl rfl ?_
  refine zr_sipush (v := 1599) 1599 5 C (by decide +kernel) rfl rfl ?_
  refine k_M_in (idx := 139) 8 C (by decide +kernel) rfl q_1181 (zb2 rfl rfl) (Nat.le_of_ble_eq_true rfl) hf (fun r2 σ1 hf => ?_)
  obtain ⟨hz, hf⟩ := zbo_some hf
  obtain rfl := Option.some.inj hf
  exact zr_zret C (by decide +kernel) hz T
theorem y_M_isPlace : zY yX11_isPlace cX11_isPlace 1 (some .boolean) 1 := ⟨q_1180, q_90, by decide +kernel, by decide +kernel, by decide +kernel⟩
theorem k_M_isPlace {l : Launch} {d : zD} {F : zF} {h : Nat → Nat} {σ : zS} {lv : List (Option Value)} {pc : Nat} {own : String} {cc : ByteArray} {nL fr lo idx : Nat} {rest : List Value} {β : Type} {kf : Int32 → zS → Option β} {o2 : β} {p0 : Int32} (pc' : Nat) (C : zOk d F own cc nL fr lo) (hd : decode cc pc = .ok (.invokestatic idx, 3)) (hp : pc + 3 = pc') (hq : Cond.methodLink own idx yX11_isPlace ∈ zW) (hm : 1 + 1 ≤ fr ∧ 8 + (1 + 11) + 22 ≤ lo) (hr : (rest.map fun v => v.category).sum ≤ 8) (hf : zbd (f_M_isPlace p0 σ) kf = some o2) (K : ∀ (r : Int32) (σ' : zS), kf r σ' = some o2 → V l d F 0 0 (MW d h σ') lv pc' (.int r :: rest)) : V l d F 0 0 (MW d h σ) lv pc (.int p0 :: rest) := by
  obtain ⟨q, h1, h2⟩ := zbd_some hf
  exact zr_callS y_M_isPlace q_1179 (As := [.int p0]) (m_M_isPlace h1) rfl rfl pc' C hd hp hq hm hr (K _ _ h2)
/-! StepsBeyondModel.isHouse(I)Z -/
def f_M_isHouse (p1 : Int32) (σ : zS) : Option (Int32 × zS) :=
  zbd (f_M_in p1 0 ((σ.1 0) - 1) σ) fun r2 σ1 =>
  zbo r2 (some (r2, σ1))
set_option maxRecDepth 4000 in
theorem m_M_isHouse {l : Launch} {d : zD} {h : Nat → Nat} {out : Int32 × zS} {σ : zS} {p1 : Int32} (hf : f_M_isHouse p1 σ = some out) : zM l yX11_isHouse cX11_isHouse 2 (some .boolean) 1 22 d [.ref (h 0), .int p1] (MW d h σ) (MW d h out.2) (some (.int out.1)) := by
  refine zM_of [some (.ref (h 0)), some (.int p1)] (by decide +kernel) rfl (Nat.le_of_ble_eq_true rfl) (fun F C T => ?_)
  unfold f_M_isHouse at hf
  refine zr_iload_n 1 1 C (by decide +kernel) rfl rfl ?_
  refine zr_iconst (v := 0) 0 2 C (by decide +kernel) rfl rfl ?_
  refine zr_aload_n 0 3 C (by decide +kernel) rfl rfl ?_
  refine mg_0_0 (idx := 143) 6 C (by decide +kernel) rfl q_991 ?_
  refine zr_iconst (v := 1) 1 7 C (by decide +kernel) rfl rfl ?_
  refine zr_isub 8 C (by decide +kernel) rfl ?_
  refine k_M_in (idx := 139) 11 C (by decide +kernel) rfl q_1181 (zb2 rfl rfl) (Nat.le_of_ble_eq_true rfl) hf (fun r2 σ1 hf => ?_)
  obtain ⟨hz, hf⟩ := zbo_some hf
  obtain rfl := Option.some.inj hf
  exact zr_zret C (by decide +kernel) hz T
theorem y_M_isHouse : zY yX11_isHouse cX11_isHouse 2 (some .boolean) 1 := ⟨q_1191, q_90, by decide +kernel, by decide +kernel, by decide +kernel⟩
theorem k_M_isHouse {l : Launch} {d : zD} {F : zF} {h : Nat → Nat} {σ : zS} {lv : List (Option Value)} {pc : Nat} {own : String} {cc : ByteArray} {nL fr lo idx : Nat} {rest : List Value} {β : Type} {kf : Int32 → zS → Option β} {o2 : β} {p1 : Int32} (pc' : Nat) (C : zOk d F own cc nL fr lo) (hd : decode cc pc = .ok (.invokevirtual idx, 3)) (hp : pc + 3 = pc') (hq : Cond.methodLink own idx yX11_isHouse ∈ zW) (hm : 1 + 1 ≤ fr ∧ 8 + (2 + 11) + 22 ≤ lo) (hr : (rest.map fun v => v.category).sum ≤ 8) (hf : zbd (f_M_isHouse p1 σ) kf = some o2) (K : ∀ (r : Int32) (σ' : zS), kf r σ' = some o2 → V l d F 0 0 (MW d h σ') lv pc' (.int r :: rest)) : V l d F 0 0 (MW d h σ) lv pc (.int p1 :: .ref (h 0) :: rest) := by
  obtain ⟨q, h1, h2⟩ := zbd_some hf
  exact zr_callV y_M_isHouse ⟨q_1190, q_37⟩ 0 rfl rfl (As := [.int p1]) (m_M_isHouse h1) rfl rfl pc' C hd hp hq hm hr (K _ _ h2)
/-! StepsBeyondModel.abs(I)I -/
def f_M_abs (p0 : Int32) (σ : zS) : Option (Int32 × zS) :=
  (if 0 ≤ p0 then
  some (p0, σ)
  else
  some (-p0, σ))
set_option maxRecDepth 4000 in
theorem m_M_abs {l : Launch} {d : zD} {h : Nat → Nat} {out : Int32 × zS} {σ : zS} {p0 : Int32} (hf : f_M_abs p0 σ = some out) : zM l yX11_abs cX11_abs 1 (some .int) 0 0 d [.int p0] (MW d h σ) (MW d h out.2) (some (.int out.1)) := by
  refine zM_of [some (.int p0)] (by decide +kernel) rfl (Nat.le_of_ble_eq_true rfl) (fun F C T => ?_)
  unfold f_M_abs at hf
  refine zr_iload_n 0 1 C (by decide +kernel) rfl rfl ?_
  refine zr_if_ge (off := 8) 9 4 C (by decide +kernel) (by decide) rfl hf (fun hf => ?_) (fun hf => ?_)
  · refine zr_iload_n 0 10 C (by decide +kernel) rfl rfl ?_
    obtain rfl := Option.some.inj hf
    exact zr_iret C (by decide +kernel) T
  · refine zr_iload_n 0 5 C (by decide +kernel) rfl rfl ?_
    refine zr_ineg 6 C (by decide +kernel) rfl ?_
    refine zr_goto (off := 4) 10 C (by decide +kernel) (by decide) ?_
    obtain rfl := Option.some.inj hf
    exact zr_iret C (by decide +kernel) T
theorem y_M_abs : zY yX11_abs cX11_abs 1 (some .int) 1 := ⟨q_1262, q_90, by decide +kernel, by decide +kernel, by decide +kernel⟩
theorem k_M_abs {l : Launch} {d : zD} {F : zF} {h : Nat → Nat} {σ : zS} {lv : List (Option Value)} {pc : Nat} {own : String} {cc : ByteArray} {nL fr lo idx : Nat} {rest : List Value} {β : Type} {kf : Int32 → zS → Option β} {o2 : β} {p0 : Int32} (pc' : Nat) (C : zOk d F own cc nL fr lo) (hd : decode cc pc = .ok (.invokestatic idx, 3)) (hp : pc + 3 = pc') (hq : Cond.methodLink own idx yX11_abs ∈ zW) (hm : 0 + 1 ≤ fr ∧ 8 + (1 + 11) + 0 ≤ lo) (hr : (rest.map fun v => v.category).sum ≤ 8) (hf : zbd (f_M_abs p0 σ) kf = some o2) (K : ∀ (r : Int32) (σ' : zS), kf r σ' = some o2 → V l d F 0 0 (MW d h σ') lv pc' (.int r :: rest)) : V l d F 0 0 (MW d h σ) lv pc (.int p0 :: rest) := by
  obtain ⟨q, h1, h2⟩ := zbd_some hf
  exact zr_callS y_M_abs q_1261 (As := [.int p0]) (m_M_abs h1) rfl rfl pc' C hd hp hq hm hr (K _ _ h2)
/-! StepsBeyondModel.apart(II)I -/
def f_M_apart (p0 : Int32) (p1 : Int32) (σ : zS) : Option (Int32 × zS) :=
  zbd (f_M_abs ((zrem p0 40) - (zrem p1 40)) σ) fun r2 σ1 =>
  zbd (f_M_abs ((p0 / 40) - (p1 / 40)) σ1) fun r4 σ3 =>
  some (r2 + r4, σ3)
set_option maxRecDepth 4000 in
theorem m_M_apart {l : Launch} {d : zD} {h : Nat → Nat} {out : Int32 × zS} {σ : zS} {p0 : Int32} {p1 : Int32} (hf : f_M_apart p0 p1 σ = some out) : zM l yX11_apart cX11_apart 2 (some .int) 1 20 d [.int p0, .int p1] (MW d h σ) (MW d h out.2) (some (.int out.1)) := by
  refine zM_of [some (.int p0), some (.int p1)] (by decide +kernel) rfl (Nat.le_of_ble_eq_true rfl) (fun F C T => ?_)
  unfold f_M_apart at hf
  refine zr_iload_n 0 1 C (by decide +kernel) rfl rfl ?_
  refine zr_bipush (v := 40) 40 3 C (by decide +kernel) rfl rfl ?_
  refine zr_irem 4 C (by decide +kernel) rfl (by decide) ?_
  refine zr_iload_n 1 5 C (by decide +kernel) rfl rfl ?_
  refine zr_bipush (v := 40) 40 7 C (by decide +kernel) rfl rfl ?_
  refine zr_irem 8 C (by decide +kernel) rfl (by decide) ?_
  refine zr_isub 9 C (by decide +kernel) rfl ?_
  refine k_M_abs (idx := 146) 12 C (by decide +kernel) rfl q_1260 (zb2 rfl rfl) (Nat.le_of_ble_eq_true rfl) hf (fun r2 σ1 hf => ?_)
  refine zr_iload_n 0 13 C (by decide +kernel) rfl rfl ?_
  refine zr_bipush (v := 40) 40 15 C (by decide +kernel) rfl rfl ?_
  refine zr_idiv 16 C (by decide +kernel) rfl (by decide) ?_
  refine zr_iload_n 1 17 C (by decide +kernel) rfl rfl ?_
  refine zr_bipush (v := 40) 40 19 C (by decide +kernel) rfl rfl ?_
  refine zr_idiv 20 C (by decide +kernel) rfl (by decide) ?_
  refine zr_isub 21 C (by decide +kernel) rfl ?_
  refine k_M_abs (idx := 146) 24 C (by decide +kernel) rfl q_1260 (zb2 rfl rfl) (Nat.le_of_ble_eq_true rfl) hf (fun r4 σ3 hf => ?_)
  refine zr_iadd 25 C (by decide +kernel) rfl ?_
  obtain rfl := Option.some.inj hf
  exact zr_iret C (by decide +kernel) T
theorem y_M_apart : zY yX11_apart cX11_apart 2 (some .int) 2 := ⟨q_1259, q_90, by decide +kernel, by decide +kernel, by decide +kernel⟩
theorem k_M_apart {l : Launch} {d : zD} {F : zF} {h : Nat → Nat} {σ : zS} {lv : List (Option Value)} {pc : Nat} {own : String} {cc : ByteArray} {nL fr lo idx : Nat} {rest : List Value} {β : Type} {kf : Int32 → zS → Option β} {o2 : β} {p0 : Int32} {p1 : Int32} (pc' : Nat) (C : zOk d F own cc nL fr lo) (hd : decode cc pc = .ok (.invokestatic idx, 3)) (hp : pc + 3 = pc') (hq : Cond.methodLink own idx yX11_apart ∈ zW) (hm : 1 + 1 ≤ fr ∧ 8 + (2 + 11) + 20 ≤ lo) (hr : (rest.map fun v => v.category).sum ≤ 8) (hf : zbd (f_M_apart p0 p1 σ) kf = some o2) (K : ∀ (r : Int32) (σ' : zS), kf r σ' = some o2 → V l d F 0 0 (MW d h σ') lv pc' (.int r :: rest)) : V l d F 0 0 (MW d h σ) lv pc (.int p1 :: .int p0 :: rest) := by
  obtain ⟨q, h1, h2⟩ := zbd_some hf
  exact zr_callS y_M_apart q_1258 (As := [.int p0, .int p1]) (m_M_apart h1) rfl rfl pc' C hd hp hq hm hr (K _ _ h2)
/-! StepsBeyondModel.house(II)I -/
def f_M_house (p1 : Int32) (p2 : Int32) (σ : zS) : Option (Int32 × zS) :=
  zbd (f_M_isPlace p1 σ) fun r2 σ1 =>
  (if r2 = 0 then
  some (-2, σ1)
  else
  zbd (f_M_in p2 0 1 σ1) fun r4 σ3 =>
  (if r4 = 0 then
  some (-2, σ3)
  else
  (if (σ3.1 0) = 20 then
  some (-4, σ3)
  else
  zin (σ3.1 0) 20 (zlt (zsa σ3 1 (σ3.1 0) p1) fun σ5 =>
  zin (σ5.1 0) 20 (zlt (zsa σ5 2 (σ5.1 0) p2) fun σ6 =>
  zlt (zsg σ6 0 ((σ6.1 0) + 1)) fun σ7 =>
  some ((σ7.1 0) - 1, σ7))))))
set_option maxRecDepth 4000 in
theorem m_M_house {l : Launch} {d : zD} {h : Nat → Nat} {out : Int32 × zS} {σ : zS} {p1 : Int32} {p2 : Int32} (hf : f_M_house p1 p2 σ = some out) : zM l yX11_house cX11_house 3 (some .int) 2 42 d [.ref (h 0), .int p1, .int p2] (MW d h σ) (MW d h out.2) (some (.int out.1)) := by
  refine zM_of [some (.ref (h 0)), some (.int p1), some (.int p2)] (by decide +kernel) rfl (Nat.le_of_ble_eq_true rfl) (fun F C T => ?_)
  unfold f_M_house at hf
  refine zr_iload_n 1 1 C (by decide +kernel) rfl rfl ?_
  refine k_M_isPlace (idx := 150) 4 C (by decide +kernel) rfl q_1178 (zb2 rfl rfl) (Nat.le_of_ble_eq_true rfl) hf (fun r2 σ1 hf => ?_)
  refine zr_if_eq (off := 12) 16 7 C (by decide +kernel) (by decide) rfl hf (fun hf => ?_) (fun hf => ?_)
  · refine zr_bipush (v := (-2)) (-2) 18 C (by decide +kernel) rfl rfl ?_
    obtain rfl := Option.some.inj hf
    exact zr_iret C (by decide +kernel) T
  · refine zr_iload_n 2 8 C (by decide +kernel) rfl rfl ?_
    refine zr_iconst (v := 0) 0 9 C (by decide +kernel) rfl rfl ?_
    refine zr_iconst (v := 1) 1 10 C (by decide +kernel) rfl rfl ?_
    refine k_M_in (idx := 139) 13 C (by decide +kernel) rfl q_1181 (zb2 rfl rfl) (Nat.le_of_ble_eq_true rfl) hf (fun r4 σ3 hf => ?_)
    refine zr_if_ne (off := 6) 19 16 C (by decide +kernel) (by decide) rfl hf (fun hf => ?_) (fun hf => ?_)
    · refine zr_aload_n 0 20 C (by decide +kernel) rfl rfl ?_
      refine mg_0_0 (idx := 143) 23 C (by decide +kernel) rfl q_991 ?_
      refine zr_bipush (v := 20) 20 25 C (by decide +kernel) rfl rfl ?_
      refine zr_icmp_ne (off := 6) 31 28 C (by decide +kernel) (by decide) rfl hf (fun hf => ?_) (fun hf => ?_)
      · refine zr_aload_n 0 32 C (by decide +kernel) rfl rfl ?_
        refine mg_0_1 (idx := 7) 35 C (by decide +kernel) rfl q_992 ?_
        refine zr_aload_n 0 36 C (by decide +kernel) rfl rfl ?_
        refine mg_0_0 (idx := 143) 39 C (by decide +kernel) rfl q_991 ?_
        refine zr_iload_n 1 40 C (by decide +kernel) rfl rfl ?_
        refine ms_1 41 C (by decide +kernel) rfl hf (fun σ5 hf => ?_)
        refine zr_aload_n 0 42 C (by decide +kernel) rfl rfl ?_
        refine mg_0_2 (idx := 13) 45 C (by decide +kernel) rfl q_993 ?_
        refine zr_aload_n 0 46 C (by decide +kernel) rfl rfl ?_
        refine mg_0_0 (idx := 143) 49 C (by decide +kernel) rfl q_991 ?_
        refine zr_iload_n 2 50 C (by decide +kernel) rfl rfl ?_
        refine ms_2 51 C (by decide +kernel) rfl hf (fun σ6 hf => ?_)
        refine zr_aload_n 0 52 C (by decide +kernel) rfl rfl ?_
        refine zr_dup 53 C (by decide +kernel) rfl rfl ?_
        refine mg_0_0 (idx := 143) 56 C (by decide +kernel) rfl q_991 ?_
        refine zr_iconst (v := 1) 1 57 C (by decide +kernel) rfl rfl ?_
        refine zr_iadd 58 C (by decide +kernel) rfl ?_
        refine mp_0_0 (idx := 143) 61 C (by decide +kernel) rfl q_991 hf (fun σ7 hf => ?_)
        refine zr_aload_n 0 62 C (by decide +kernel) rfl rfl ?_
        refine mg_0_0 (idx := 143) 65 C (by decide +kernel) rfl q_991 ?_
        refine zr_iconst (v := 1) 1 66 C (by decide +kernel) rfl rfl ?_
        refine zr_isub 67 C (by decide +kernel) rfl ?_
        obtain rfl := Option.some.inj hf
        exact zr_iret C (by decide +kernel) T
      · refine zr_bipush (v := (-4)) (-4) 30 C (by decide +kernel) rfl rfl ?_
        obtain rfl := Option.some.inj hf
        exact zr_iret C (by decide +kernel) T
    · refine zr_bipush (v := (-2)) (-2) 18 C (by decide +kernel) rfl rfl ?_
      obtain rfl := Option.some.inj hf
      exact zr_iret C (by decide +kernel) T
theorem y_M_house : zY yX11_house cX11_house 3 (some .int) 2 := ⟨q_1177, q_90, by decide +kernel, by decide +kernel, by decide +kernel⟩
theorem k_M_house {l : Launch} {d : zD} {F : zF} {h : Nat → Nat} {σ : zS} {lv : List (Option Value)} {pc : Nat} {own : String} {cc : ByteArray} {nL fr lo idx : Nat} {rest : List Value} {β : Type} {kf : Int32 → zS → Option β} {o2 : β} {p1 : Int32} {p2 : Int32} (pc' : Nat) (C : zOk d F own cc nL fr lo) (hd : decode cc pc = .ok (.invokevirtual idx, 3)) (hp : pc + 3 = pc') (hq : Cond.methodLink own idx yX11_house ∈ zW) (hm : 2 + 1 ≤ fr ∧ 8 + (3 + 11) + 42 ≤ lo) (hr : (rest.map fun v => v.category).sum ≤ 8) (hf : zbd (f_M_house p1 p2 σ) kf = some o2) (K : ∀ (r : Int32) (σ' : zS), kf r σ' = some o2 → V l d F 0 0 (MW d h σ') lv pc' (.int r :: rest)) : V l d F 0 0 (MW d h σ) lv pc (.int p2 :: .int p1 :: .ref (h 0) :: rest) := by
  obtain ⟨q, h1, h2⟩ := zbd_some hf
  exact zr_callV y_M_house ⟨q_1175, q_1176⟩ 0 rfl rfl (As := [.int p1, .int p2]) (m_M_house h1) rfl rfl pc' C hd hp hq hm hr (K _ _ h2)
/-! StepsBeyondModel.hut(II)I -/
def f_M_hut (p1 : Int32) (p2 : Int32) (σ : zS) : Option (Int32 × zS) :=
  zbd (f_M_isHouse p1 σ) fun r2 σ1 =>
  (if r2 = 0 then
  some (-1, σ1)
  else
  zbd (f_M_in p2 0 1 σ1) fun r4 σ3 =>
  (if r4 = 0 then
  some (-2, σ3)
  else
  zin p1 20 (zlt (σ3.2 2 p1.toNatClampNeg) fun v5 => 
  zin p1 20 (zlt (zsa σ3 2 p1 p2) fun σ6 =>
  some (v5, σ6)))))
set_option maxRecDepth 4000 in
theorem m_M_hut {l : Launch} {d : zD} {h : Nat → Nat} {out : Int32 × zS} {σ : zS} {p1 : Int32} {p2 : Int32} (hf : f_M_hut p1 p2 σ = some out) : zM l yX11_hut cX11_hut 4 (some .int) 2 43 d [.ref (h 0), .int p1, .int p2] (MW d h σ) (MW d h out.2) (some (.int out.1)) := by
  refine zM_of [some (.ref (h 0)), some (.int p1), some (.int p2), none] (by decide +kernel) rfl (Nat.le_of_ble_eq_true rfl) (fun F C T => ?_)
  unfold f_M_hut at hf
  refine zr_aload_n 0 1 C (by decide +kernel) rfl rfl ?_
  refine zr_iload_n 1 2 C (by decide +kernel) rfl rfl ?_
  refine k_M_isHouse (idx := 154) 5 C (by decide +kernel) rfl q_1188 (zb2 rfl rfl) (Nat.le_of_ble_eq_true rfl) hf (fun r2 σ1 hf => ?_)
  refine zr_if_ne (off := 5) 10 8 C (by decide +kernel) (by decide) rfl hf (fun hf => ?_) (fun hf => ?_)
  · refine zr_iload_n 2 11 C (by decide +kernel) rfl rfl ?_
    refine zr_iconst (v := 0) 0 12 C (by decide +kernel) rfl rfl ?_
    refine zr_iconst (v := 1) 1 13 C (by decide +kernel) rfl rfl ?_
    refine k_M_in (idx := 139) 16 C (by decide +kernel) rfl q_1181 (zb2 rfl rfl) (Nat.le_of_ble_eq_true rfl) hf (fun r4 σ3 hf => ?_)
    refine zr_if_ne (off := 6) 22 19 C (by decide +kernel) (by decide) rfl hf (fun hf => ?_) (fun hf => ?_)
    · refine zr_aload_n 0 23 C (by decide +kernel) rfl rfl ?_
      refine mg_0_2 (idx := 13) 26 C (by decide +kernel) rfl q_993 ?_
      refine zr_iload_n 1 27 C (by decide +kernel) rfl rfl ?_
      refine ml_2 28 C (by decide +kernel) rfl hf (fun hf => ?_)
      refine zr_name hf (fun v5 hf => ?_)
      refine zr_istore_n 3 [some (.ref (h 0)), some (.int p1), some (.int p2), some (.int v5)] 29 C (by decide +kernel) rfl (by decide) rfl rfl ?_
      refine zr_aload_n 0 30 C (by decide +kernel) rfl rfl ?_
      refine mg_0_2 (idx := 13) 33 C (by decide +kernel) rfl q_993 ?_
      refine zr_iload_n 1 34 C (by decide +kernel) rfl rfl ?_
      refine zr_iload_n 2 35 C (by decide +kernel) rfl rfl ?_
      refine ms_2 36 C (by decide +kernel) rfl hf (fun σ6 hf => ?_)
      refine zr_iload_n 3 37 C (by decide +kernel) rfl rfl ?_
      obtain rfl := Option.some.inj hf
      exact zr_iret C (by decide +kernel) T
    · refine zr_bipush (v := (-2)) (-2) 21 C (by decide +kernel) rfl rfl ?_
      obtain rfl := Option.some.inj hf
      exact zr_iret C (by decide +kernel) T
  · refine zr_iconst (v := (-1)) (-1) 9 C (by decide +kernel) rfl rfl ?_
    obtain rfl := Option.some.inj hf
    exact zr_iret C (by decide +kernel) T
theorem y_M_hut : zY yX11_hut cX11_hut 4 (some .int) 2 := ⟨q_1187, q_90, by decide +kernel, by decide +kernel, by decide +kernel⟩
theorem k_M_hut {l : Launch} {d : zD} {F : zF} {h : Nat → Nat} {σ : zS} {lv : List (Option Value)} {pc : Nat} {own : String} {cc : ByteArray} {nL fr lo idx : Nat} {rest : List Value} {β : Type} {kf : Int32 → zS → Option β} {o2 : β} {p1 : Int32} {p2 : Int32} (pc' : Nat) (C : zOk d F own cc nL fr lo) (hd : decode cc pc = .ok (.invokevirtual idx, 3)) (hp : pc + 3 = pc') (hq : Cond.methodLink own idx yX11_hut ∈ zW) (hm : 2 + 1 ≤ fr ∧ 8 + (4 + 11) + 43 ≤ lo) (hr : (rest.map fun v => v.category).sum ≤ 8) (hf : zbd (f_M_hut p1 p2 σ) kf = some o2) (K : ∀ (r : Int32) (σ' : zS), kf r σ' = some o2 → V l d F 0 0 (MW d h σ') lv pc' (.int r :: rest)) : V l d F 0 0 (MW d h σ) lv pc (.int p2 :: .int p1 :: .ref (h 0) :: rest) := by
  obtain ⟨q, h1, h2⟩ := zbd_some hf
  exact zr_callV y_M_hut ⟨q_1185, q_1186⟩ 0 rfl rfl (As := [.int p1, .int p2]) (m_M_hut h1) rfl rfl pc' C hd hp hq hm hr (K _ _ h2)
/-! StepsBeyondModel.feed(JI)I -/
def f_M_feed_33b (k33 : Int64 → Int32 → zS → Option (Int32 × zS)) (x1 : Int64) (x4 : Int32) (σ : zS) : Option (Int32 × zS) :=
  (if x4 < 0 then
  some (σ.1 20, σ)
  else
  zin (σ.1 20) 160 (zlt (zsa σ 14 (σ.1 20) (((zlshr x1 (8 * x4)) &&& 255).toInt32)) fun σ1 =>
  zlt (zsg σ1 20 ((σ1.1 20) + 1)) fun σ2 =>
  k33 x1 (x4 + (-1)) σ2))
set_option maxRecDepth 4000 in
theorem w_M_feed_33b {l : Launch} {d : zD} {F : zF} {h : Nat → Nat} {out : Int32 × zS} {k33 : Int64 → Int32 → zS → Option (Int32 × zS)} (C : zOk d F RX11 cX11_feed 5 1 22) (T : zRt d F (some .int) (some (.int out.1)) (MW d h out.2)) (H33 : ∀ (x1 : Int64) (x4 : Int32) (σ : zS), k33 x1 x4 σ = some out → V l d F 0 0 (MW d h σ) [some (.ref (h 0)), some (.long x1), none, none, some (.int x4)] 33 []) (x1 : Int64) (x4 : Int32) (σ : zS) (hf : f_M_feed_33b k33 x1 x4 σ = some out) : V l d F 0 0 (MW d h σ) [some (.ref (h 0)), some (.long x1), none, none, some (.int x4)] 33 [] := by
  unfold f_M_feed_33b at hf
  refine zr_iload 4 35 C (by decide +kernel) rfl rfl ?_
  refine zr_if_lt (off := 40) 75 38 C (by decide +kernel) (by decide) rfl hf (fun hf => ?_) (fun hf => ?_)
  · refine zr_aload_n 0 76 C (by decide +kernel) rfl rfl ?_
    refine mg_0_20 (idx := 157) 79 C (by decide +kernel) rfl q_1011 ?_
    obtain rfl := Option.some.inj hf
    exact zr_iret C (by decide +kernel) T
  · refine zr_aload_n 0 39 C (by decide +kernel) rfl rfl ?_
    refine mg_0_19 (idx := 49) 42 C (by decide +kernel) rfl q_1010 ?_
    refine zr_aload_n 0 43 C (by decide +kernel) rfl rfl ?_
    refine mg_0_20 (idx := 157) 46 C (by decide +kernel) rfl q_1011 ?_
    refine zr_lload_n 1 47 C (by decide +kernel) rfl rfl ?_
    refine zr_bipush (v := 8) 8 49 C (by decide +kernel) rfl rfl ?_
    refine zr_iload 4 51 C (by decide +kernel) rfl rfl ?_
    refine zr_imul 52 C (by decide +kernel) rfl ?_
    refine zr_lshr 53 C (by decide +kernel) rfl ?_
    refine zr_ldc2 (v := 255) (i := 160) 56 C (by decide +kernel) rfl q_1196 ?_
    refine zr_land 57 C (by decide +kernel) rfl ?_
    refine zr_l2i 58 C (by decide +kernel) rfl ?_
    refine ms_14 59 C (by decide +kernel) rfl hf (fun σ1 hf => ?_)
    refine zr_aload_n 0 60 C (by decide +kernel) rfl rfl ?_
    refine zr_dup 61 C (by decide +kernel) rfl rfl ?_
    refine mg_0_20 (idx := 157) 64 C (by decide +kernel) rfl q_1011 ?_
    refine zr_iconst (v := 1) 1 65 C (by decide +kernel) rfl rfl ?_
    refine zr_iadd 66 C (by decide +kernel) rfl ?_
    refine mp_0_20 (idx := 157) 69 C (by decide +kernel) rfl q_1011 hf (fun σ2 hf => ?_)
    refine zr_iinc (j := -1) 4 [some (.ref (h 0)), some (.long x1), none, none, some (.int (x4 + (-1)))] 72 C (by decide +kernel) rfl rfl rfl (by decide) rfl rfl ?_
    refine zr_goto (off := -39) 33 C (by decide +kernel) (by decide) ?_
    exact H33 _ _ _ hf
def f_M_feed_33  : Nat → Int64 → Int32 → zS → Option (Int32 × zS)
  | 0, _, _, _ => none
  | n + 1, x1, x4,  σ => f_M_feed_33b (fun x1 x4 σ => f_M_feed_33  n x1 x4 σ) x1 x4 σ
theorem w_M_feed_33 {l : Launch} {d : zD} {F : zF} {h : Nat → Nat} {out : Int32 × zS}  (C : zOk d F RX11 cX11_feed 5 1 22) (T : zRt d F (some .int) (some (.int out.1)) (MW d h out.2))  : ∀ (n : Nat) (x1 : Int64) (x4 : Int32) (σ : zS), f_M_feed_33  n x1 x4 σ = some out → V l d F 0 0 (MW d h σ) [some (.ref (h 0)), some (.long x1), none, none, some (.int x4)] 33 [] := by
  intro n
  induction n with
  | zero =>
    intro x1 x4 σ hf
    cases hf
  | succ n ih =>
    intro x1 x4 σ hf
    exact w_M_feed_33b C T ih x1 x4 σ hf
def f_M_feed (p1 : Int64) (p3 : Int32) (σ : zS) : Option (Int32 × zS) :=
  zbd (f_M_in p3 1 8 σ) fun r2 σ1 =>
  (if r2 = 0 then
  some (-2, σ1)
  else
  (if ((σ1.1 20) + p3) ≤ 160 then
  zlt (p3 - 1) fun v3 => 
  f_M_feed_33 zfu p1 v3 σ1
  else
  some (-4, σ1)))
set_option maxRecDepth 4000 in
theorem m_M_feed {l : Launch} {d : zD} {h : Nat → Nat} {out : Int32 × zS} {σ : zS} {p1 : Int64} {p3 : Int32} (hf : f_M_feed p1 p3 σ = some out) : zM l yX11_feed cX11_feed 5 (some .int) 1 22 d [.ref (h 0), .long p1, .int p3] (MW d h σ) (MW d h out.2) (some (.int out.1)) := by
  refine zM_of [some (.ref (h 0)), some (.long p1), none, some (.int p3), none] (by decide +kernel) rfl (Nat.le_of_ble_eq_true rfl) (fun F C T => ?_)
  unfold f_M_feed at hf
  refine zr_iload_n 3 1 C (by decide +kernel) rfl rfl ?_
  refine zr_iconst (v := 1) 1 2 C (by decide +kernel) rfl rfl ?_
  refine zr_bipush (v := 8) 8 4 C (by decide +kernel) rfl rfl ?_
  refine k_M_in (idx := 139) 7 C (by decide +kernel) rfl q_1181 (zb2 rfl rfl) (Nat.le_of_ble_eq_true rfl) hf (fun r2 σ1 hf => ?_)
  refine zr_if_ne (off := 6) 13 10 C (by decide +kernel) (by decide) rfl hf (fun hf => ?_) (fun hf => ?_)
  · refine zr_aload_n 0 14 C (by decide +kernel) rfl rfl ?_
    refine mg_0_20 (idx := 157) 17 C (by decide +kernel) rfl q_1011 ?_
    refine zr_iload_n 3 18 C (by decide +kernel) rfl rfl ?_
    refine zr_iadd 19 C (by decide +kernel) rfl ?_
    refine zr_sipush (v := 160) 160 22 C (by decide +kernel) rfl rfl ?_
    refine zr_icmp_le (off := 6) 28 25 C (by decide +kernel) (by decide) rfl hf (fun hf => ?_) (fun hf => ?_)
    · refine zr_iload_n 3 29 C (by decide +kernel) rfl rfl ?_
      refine zr_iconst (v := 1) 1 30 C (by decide +kernel) rfl rfl ?_
      refine zr_isub 31 C (by decide +kernel) rfl ?_
      refine zr_name hf (fun v3 hf => ?_)
      refine zr_istore 4 [some (.ref (h 0)), some (.long p1), none, some (.int p3), some (.int v3)] 33 C (by decide +kernel) rfl (by decide) rfl rfl ?_
      refine zr_less (zA (zA (zN (zN (zA zE))))) ?_
      exact w_M_feed_33 C T zfu _ _ _ hf
    · refine zr_bipush (v := (-4)) (-4) 27 C (by decide +kernel) rfl rfl ?_
      obtain rfl := Option.some.inj hf
      exact zr_iret C (by decide +kernel) T
  · refine zr_bipush (v := (-2)) (-2) 12 C (by decide +kernel) rfl rfl ?_
    obtain rfl := Option.some.inj hf
    exact zr_iret C (by decide +kernel) T
theorem y_M_feed : zY yX11_feed cX11_feed 5 (some .int) 2 := ⟨q_1195, q_90, by decide +kernel, by decide +kernel, by decide +kernel⟩
theorem k_M_feed {l : Launch} {d : zD} {F : zF} {h : Nat → Nat} {σ : zS} {lv : List (Option Value)} {pc : Nat} {own : String} {cc : ByteArray} {nL fr lo idx : Nat} {rest : List Value} {β : Type} {kf : Int32 → zS → Option β} {o2 : β} {p1 : Int64} {p3 : Int32} (pc' : Nat) (C : zOk d F own cc nL fr lo) (hd : decode cc pc = .ok (.invokevirtual idx, 3)) (hp : pc + 3 = pc') (hq : Cond.methodLink own idx yX11_feed ∈ zW) (hm : 1 + 1 ≤ fr ∧ 8 + (5 + 11) + 22 ≤ lo) (hr : (rest.map fun v => v.category).sum ≤ 8) (hf : zbd (f_M_feed p1 p3 σ) kf = some o2) (K : ∀ (r : Int32) (σ' : zS), kf r σ' = some o2 → V l d F 0 0 (MW d h σ') lv pc' (.int r :: rest)) : V l d F 0 0 (MW d h σ) lv pc (.int p3 :: .long p1 :: .ref (h 0) :: rest) := by
  obtain ⟨q, h1, h2⟩ := zbd_some hf
  exact zr_callV y_M_feed ⟨q_1193, q_1194⟩ 0 rfl rfl (As := [.long p1, .int p3]) (m_M_feed h1) rfl rfl pc' C hd hp hq hm hr (K _ _ h2)
/-! StepsBeyondModel.letters()J -/
def f_M_letters_76  (x1 : Int64) (x3 : Int32) (σ : zS) : Option (Int64 × zS) :=
  (if x3 ≤ 7 then
  some (x1, σ)
  else
  some ((0 : Int64), σ))
set_option maxRecDepth 4000 in
theorem w_M_letters_76 {l : Launch} {d : zD} {F : zF} {h : Nat → Nat} {out : Int64 × zS}  (C : zOk d F RX11 cX11_letters 4 1 22) (T : zRt d F (some .long) (some (.long out.1)) (MW d h out.2))  (x1 : Int64) (x3 : Int32) (σ : zS) (hf : f_M_letters_76  x1 x3 σ = some out) : V l d F 0 0 (MW d h σ) [none, some (.long x1), none, some (.int x3)] 76 [] := by
  unfold f_M_letters_76 at hf
  refine zr_iload_n 3 77 C (by decide +kernel) rfl rfl ?_
  refine zr_bipush (v := 7) 7 79 C (by decide +kernel) rfl rfl ?_
  refine zr_icmp_le (off := 7) 86 82 C (by decide +kernel) (by decide) rfl hf (fun hf => ?_) (fun hf => ?_)
  · refine zr_lload_n 1 87 C (by decide +kernel) rfl rfl ?_
    obtain rfl := Option.some.inj hf
    exact zr_lret C (by decide +kernel) T
  · refine zr_lconst (v := 0) (i := 0) 83 C (by decide +kernel) rfl rfl ?_
    refine zr_goto (off := 4) 87 C (by decide +kernel) (by decide) ?_
    obtain rfl := Option.some.inj hf
    exact zr_lret C (by decide +kernel) T
def f_M_letters_59 (k4 : Int64 → Int32 → zS → Option (Int64 × zS)) (x3 : Int32) (y0 : Int64) (σ : zS) : Option (Int64 × zS) :=
  zlt (zsg σ 35 ((σ.1 35) + 1)) fun σ1 =>
  k4 y0 (x3 + 1) σ1
set_option maxRecDepth 4000 in
theorem w_M_letters_59 {l : Launch} {d : zD} {F : zF} {h : Nat → Nat} {out : Int64 × zS} {k4 : Int64 → Int32 → zS → Option (Int64 × zS)} (C : zOk d F RX11 cX11_letters 4 1 22) (T : zRt d F (some .long) (some (.long out.1)) (MW d h out.2)) (H4 : ∀ (x1 : Int64) (x3 : Int32) (σ : zS), k4 x1 x3 σ = some out → V l d F 0 0 (MW d h σ) [some (.ref (h 0)), some (.long x1), none, some (.int x3)] 4 []) (x3 : Int32) (y0 : Int64) (σ : zS) (hf : f_M_letters_59 k4 x3 y0 σ = some out) : V l d F 0 0 (MW d h σ) [some (.ref (h 0)), none, none, some (.int x3)] 59 [.long y0] := by
  unfold f_M_letters_59 at hf
  refine zr_lstore_n 1 [some (.ref (h 0)), some (.long y0), none, some (.int x3)] 60 C (by decide +kernel) rfl (by decide) rfl rfl ?_
  refine zr_iinc (j := 1) 3 [some (.ref (h 0)), some (.long y0), none, some (.int (x3 + 1))] 63 C (by decide +kernel) rfl rfl rfl (by decide) rfl rfl ?_
  refine zr_aload_n 0 64 C (by decide +kernel) rfl rfl ?_
  refine zr_dup 65 C (by decide +kernel) rfl rfl ?_
  refine mg_0_35 (idx := 162) 68 C (by decide +kernel) rfl q_1026 ?_
  refine zr_iconst (v := 1) 1 69 C (by decide +kernel) rfl rfl ?_
  refine zr_iadd 70 C (by decide +kernel) rfl ?_
  refine mp_0_35 (idx := 162) 73 C (by decide +kernel) rfl q_1026 hf (fun σ1 hf => ?_)
  refine zr_goto (off := -69) 4 C (by decide +kernel) (by decide) ?_
  exact H4 _ _ _ hf
def f_M_letters_4b (k4 : Int64 → Int32 → zS → Option (Int64 × zS)) (x1 : Int64) (x3 : Int32) (σ : zS) : Option (Int64 × zS) :=
  (if (σ.1 20) ≤ (σ.1 35) then
  f_M_letters_76 x1 x3 σ
  else
  zin (σ.1 35) 160 (zbd (f_M_in (σ.2 14 (σ.1 35).toNatClampNeg) 97 122 σ) fun r2 σ1 =>
  (if r2 = 0 then
  f_M_letters_76 x1 x3 σ1
  else
  (if 8 ≤ x3 then
  f_M_letters_59 k4 x3 x1 σ1
  else
  zin (σ1.1 35) 160 (f_M_letters_59 k4 x3 ((zlshl x1 8) ||| ((σ1.2 14 (σ1.1 35).toNatClampNeg).toInt64)) σ1)))))
set_option maxRecDepth 4000 in
theorem w_M_letters_4b {l : Launch} {d : zD} {F : zF} {h : Nat → Nat} {out : Int64 × zS} {k4 : Int64 → Int32 → zS → Option (Int64 × zS)} (C : zOk d F RX11 cX11_letters 4 1 22) (T : zRt d F (some .long) (some (.long out.1)) (MW d h out.2)) (H4 : ∀ (x1 : Int64) (x3 : Int32) (σ : zS), k4 x1 x3 σ = some out → V l d F 0 0 (MW d h σ) [some (.ref (h 0)), some (.long x1), none, some (.int x3)] 4 []) (x1 : Int64) (x3 : Int32) (σ : zS) (hf : f_M_letters_4b k4 x1 x3 σ = some out) : V l d F 0 0 (MW d h σ) [some (.ref (h 0)), some (.long x1), none, some (.int x3)] 4 [] := by
  unfold f_M_letters_4b at hf
  refine zr_aload_n 0 5 C (by decide +kernel) rfl rfl ?_
  refine mg_0_35 (idx := 162) 8 C (by decide +kernel) rfl q_1026 ?_
  refine zr_aload_n 0 9 C (by decide +kernel) rfl rfl ?_
  refine mg_0_20 (idx := 157) 12 C (by decide +kernel) rfl q_1011 ?_
  refine zr_icmp_ge (off := 64) 76 15 C (by decide +kernel) (by decide) rfl hf (fun hf => ?_) (fun hf => ?_)
  · refine zr_less (zN (zA (zN (zA zE)))) ?_
    exact w_M_letters_76 C T _ _ _ hf
  · refine zr_aload_n 0 16 C (by decide +kernel) rfl rfl ?_
    refine mg_0_19 (idx := 49) 19 C (by decide +kernel) rfl q_1010 ?_
    refine zr_aload_n 0 20 C (by decide +kernel) rfl rfl ?_
    refine mg_0_35 (idx := 162) 23 C (by decide +kernel) rfl q_1026 ?_
    refine ml_14 24 C (by decide +kernel) rfl hf (fun hf => ?_)
    refine zr_bipush (v := 97) 97 26 C (by decide +kernel) rfl rfl ?_
    refine zr_bipush (v := 122) 122 28 C (by decide +kernel) rfl rfl ?_
    refine k_M_in (idx := 139) 31 C (by decide +kernel) rfl q_1181 (zb2 rfl rfl) (Nat.le_of_ble_eq_true rfl) hf (fun r2 σ1 hf => ?_)
    refine zr_if_eq (off := 45) 76 34 C (by decide +kernel) (by decide) rfl hf (fun hf => ?_) (fun hf => ?_)
    · refine zr_less (zN (zA (zN (zA zE)))) ?_
      exact w_M_letters_76 C T _ _ _ hf
    · refine zr_iload_n 3 35 C (by decide +kernel) rfl rfl ?_
      refine zr_bipush (v := 8) 8 37 C (by decide +kernel) rfl rfl ?_
      refine zr_icmp_ge (off := 21) 58 40 C (by decide +kernel) (by decide) rfl hf (fun hf => ?_) (fun hf => ?_)
      · refine zr_lload_n 1 59 C (by decide +kernel) rfl rfl ?_
        refine zr_less (zA (zN (zN (zA zE)))) ?_
        exact w_M_letters_59 C T H4 _ _ _ hf
      · refine zr_lload_n 1 41 C (by decide +kernel) rfl rfl ?_
        refine zr_bipush (v := 8) 8 43 C (by decide +kernel) rfl rfl ?_
        refine zr_lshl 44 C (by decide +kernel) rfl ?_
        refine zr_aload_n 0 45 C (by decide +kernel) rfl rfl ?_
        refine mg_0_19 (idx := 49) 48 C (by decide +kernel) rfl q_1010 ?_
        refine zr_aload_n 0 49 C (by decide +kernel) rfl rfl ?_
        refine mg_0_35 (idx := 162) 52 C (by decide +kernel) rfl q_1026 ?_
        refine ml_14 53 C (by decide +kernel) rfl hf (fun hf => ?_)
        refine zr_i2l 54 C (by decide +kernel) rfl ?_
        refine zr_lor 55 C (by decide +kernel) rfl ?_
        refine zr_goto (off := 4) 59 C (by decide +kernel) (by decide) ?_
        refine zr_less (zA (zN (zN (zA zE)))) ?_
        exact w_M_letters_59 C T H4 _ _ _ hf
def f_M_letters_4  : Nat → Int64 → Int32 → zS → Option (Int64 × zS)
  | 0, _, _, _ => none
  | n + 1, x1, x3,  σ => f_M_letters_4b (fun x1 x3 σ => f_M_letters_4  n x1 x3 σ) x1 x3 σ
theorem w_M_letters_4 {l : Launch} {d : zD} {F : zF} {h : Nat → Nat} {out : Int64 × zS}  (C : zOk d F RX11 cX11_letters 4 1 22) (T : zRt d F (some .long) (some (.long out.1)) (MW d h out.2))  : ∀ (n : Nat) (x1 : Int64) (x3 : Int32) (σ : zS), f_M_letters_4  n x1 x3 σ = some out → V l d F 0 0 (MW d h σ) [some (.ref (h 0)), some (.long x1), none, some (.int x3)] 4 [] := by
  intro n
  induction n with
  | zero =>
    intro x1 x3 σ hf
    cases hf
  | succ n ih =>
    intro x1 x3 σ hf
    exact w_M_letters_4b C T ih x1 x3 σ hf
def f_M_letters  (σ : zS) : Option (Int64 × zS) :=
  zlt (0 : Int64) fun v1 => 
  f_M_letters_4 zfu v1 0 σ
set_option maxRecDepth 4000 in
theorem m_M_letters {l : Launch} {d : zD} {h : Nat → Nat} {out : Int64 × zS} {σ : zS}  (hf : f_M_letters  σ = some out) : zM l yX11_letters cX11_letters 4 (some .long) 1 22 d [.ref (h 0)] (MW d h σ) (MW d h out.2) (some (.long out.1)) := by
  refine zM_of [some (.ref (h 0)), none, none, none] (by decide +kernel) rfl (Nat.le_of_ble_eq_true rfl) (fun F C T => ?_)
  unfold f_M_letters at hf
  refine zr_lconst (v := 0) (i := 0) 1 C (by decide +kernel) rfl rfl ?_
  refine zr_namel hf (fun v1 hf => ?_)
  refine zr_lstore_n 1 [some (.ref (h 0)), some (.long v1), none, none] 2 C (by decide +kernel) rfl (by decide) rfl rfl ?_
  refine zr_iconst (v := 0) 0 3 C (by decide +kernel) rfl rfl ?_
  refine zr_istore_n 3 [some (.ref (h 0)), some (.long v1), none, some (.int 0)] 4 C (by decide +kernel) rfl (by decide) rfl rfl ?_
  exact w_M_letters_4 C T zfu _ _ _ hf
theorem y_M_letters : zY yX11_letters cX11_letters 4 (some .long) 0 := ⟨q_1208, q_90, by decide +kernel, by decide +kernel, by decide +kernel⟩
theorem k_M_letters {l : Launch} {d : zD} {F : zF} {h : Nat → Nat} {σ : zS} {lv : List (Option Value)} {pc : Nat} {own : String} {cc : ByteArray} {nL fr lo idx : Nat} {rest : List Value} {β : Type} {kf : Int64 → zS → Option β} {o2 : β}  (pc' : Nat) (C : zOk d F own cc nL fr lo) (hd : decode cc pc = .ok (.invokevirtual idx, 3)) (hp : pc + 3 = pc') (hq : Cond.methodLink own idx yX11_letters ∈ zW) (hm : 1 + 1 ≤ fr ∧ 8 + (4 + 11) + 22 ≤ lo) (hr : (rest.map fun v => v.category).sum ≤ 8) (hf : zbd (f_M_letters  σ) kf = some o2) (K : ∀ (r : Int64) (σ' : zS), kf r σ' = some o2 → V l d F 0 0 (MW d h σ') lv pc' (.long r :: rest)) : V l d F 0 0 (MW d h σ) lv pc (.ref (h 0) :: rest) := by
  obtain ⟨q, h1, h2⟩ := zbd_some hf
  exact zr_callV y_M_letters ⟨q_1207, q_39⟩ 0 rfl rfl (As := []) (m_M_letters h1) rfl rfl pc' C hd hp hq hm hr (K _ _ h2)
/-! StepsBeyondModel.next()V -/
def f_M_next_374  (y1 : Int32) (σ : zS) : Option (Int32 × zS) :=
  zlt (zsg σ 37 y1) fun σ1 =>
  zlt (zsg σ1 35 ((σ1.1 35) + 1)) fun σ2 =>
  some (0, σ2)
set_option maxRecDepth 4000 in
theorem w_M_next_374 {l : Launch} {d : zD} {F : zF} {h : Nat → Nat} {out : Int32 × zS}  (C : zOk d F RX11 cX11_next 5 2 45) (T : zRt d F none none (MW d h out.2))  (y1 : Int32) (σ : zS) (hf : f_M_next_374  y1 σ = some out) : V l d F 0 0 (MW d h σ) [some (.ref (h 0)), none, none, none, none] 374 [.int y1, .ref (h 0)] := by
  unfold f_M_next_374 at hf
  refine mp_0_37 (idx := 168) 377 C (by decide +kernel) rfl q_1028 hf (fun σ1 hf => ?_)
  refine zr_aload_n 0 378 C (by decide +kernel) rfl rfl ?_
  refine zr_dup 379 C (by decide +kernel) rfl rfl ?_
  refine mg_0_35 (idx := 162) 382 C (by decide +kernel) rfl q_1026 ?_
  refine zr_iconst (v := 1) 1 383 C (by decide +kernel) rfl rfl ?_
  refine zr_iadd 384 C (by decide +kernel) rfl ?_
  refine mp_0_35 (idx := 162) 387 C (by decide +kernel) rfl q_1026 hf (fun σ2 hf => ?_)
  obtain rfl := Option.some.inj hf
  exact zr_vret C (by decide +kernel) T
def f_M_next_363  (x1 : Int32) (y0 : Int32) (σ : zS) : Option (Int32 × zS) :=
  (if y0 = 0 then
  f_M_next_374 (-1) σ
  else
  f_M_next_374 x1 σ)
set_option maxRecDepth 4000 in
theorem w_M_next_363 {l : Launch} {d : zD} {F : zF} {h : Nat → Nat} {out : Int32 × zS}  (C : zOk d F RX11 cX11_next 5 2 45) (T : zRt d F none none (MW d h out.2))  (x1 : Int32) (y0 : Int32) (σ : zS) (hf : f_M_next_363  x1 y0 σ = some out) : V l d F 0 0 (MW d h σ) [some (.ref (h 0)), some (.int x1), none, none, none] 363 [.int y0] := by
  unfold f_M_next_363 at hf
  refine zr_istore_n 2 [some (.ref (h 0)), some (.int x1), some (.int y0), none, none] 364 C (by decide +kernel) rfl (by decide) rfl rfl ?_
  refine zr_aload_n 0 365 C (by decide +kernel) rfl rfl ?_
  refine zr_iload_n 2 366 C (by decide +kernel) rfl rfl ?_
  refine zr_if_eq (off := 7) 373 369 C (by decide +kernel) (by decide) rfl hf (fun hf => ?_) (fun hf => ?_)
  · refine zr_iconst (v := (-1)) (-1) 374 C (by decide +kernel) rfl rfl ?_
    refine zr_less (zA (zN (zN (zN (zN zE))))) ?_
    exact w_M_next_374 C T _ _ hf
  · refine zr_iload_n 1 370 C (by decide +kernel) rfl rfl ?_
    refine zr_goto (off := 4) 374 C (by decide +kernel) (by decide) ?_
    refine zr_less (zA (zN (zN (zN (zN zE))))) ?_
    exact w_M_next_374 C T _ _ hf
def f_M_next_358  (x1 : Int32) (σ : zS) : Option (Int32 × zS) :=
  f_M_next_363 x1 1 σ
set_option maxRecDepth 4000 in
theorem w_M_next_358 {l : Launch} {d : zD} {F : zF} {h : Nat → Nat} {out : Int32 × zS}  (C : zOk d F RX11 cX11_next 5 2 45) (T : zRt d F none none (MW d h out.2))  (x1 : Int32) (σ : zS) (hf : f_M_next_358  x1 σ = some out) : V l d F 0 0 (MW d h σ) [some (.ref (h 0)), some (.int x1), none, none, none] 358 [] := by
  unfold f_M_next_358 at hf
  refine zr_iconst (v := 1) 1 359 C (by decide +kernel) rfl rfl ?_
  refine zr_goto (off := 4) 363 C (by decide +kernel) (by decide) ?_
  exact w_M_next_363 C T _ _ _ hf
def f_M_next_304  (y1 : Int32) (σ : zS) : Option (Int32 × zS) :=
  zlt (zsg σ 37 y1) fun σ1 =>
  some (0, σ1)
set_option maxRecDepth 4000 in
theorem w_M_next_304 {l : Launch} {d : zD} {F : zF} {h : Nat → Nat} {out : Int32 × zS}  (C : zOk d F RX11 cX11_next 5 2 45) (T : zRt d F none none (MW d h out.2))  (y1 : Int32) (σ : zS) (hf : f_M_next_304  y1 σ = some out) : V l d F 0 0 (MW d h σ) [none, none, none, none, none] 304 [.int y1, .ref (h 0)] := by
  unfold f_M_next_304 at hf
  refine mp_0_37 (idx := 168) 307 C (by decide +kernel) rfl q_1028 hf (fun σ1 hf => ?_)
  refine zr_goto (off := 80) 387 C (by decide +kernel) (by decide) ?_
  obtain rfl := Option.some.inj hf
  exact zr_vret C (by decide +kernel) T
def f_M_next_293  (x2 : Int32) (σ : zS) : Option (Int32 × zS) :=
  (if x2 ≤ 4 then
  f_M_next_304 1 σ
  else
  f_M_next_304 (-1) σ)
set_option maxRecDepth 4000 in
theorem w_M_next_293 {l : Launch} {d : zD} {F : zF} {h : Nat → Nat} {out : Int32 × zS}  (C : zOk d F RX11 cX11_next 5 2 45) (T : zRt d F none none (MW d h out.2))  (x2 : Int32) (σ : zS) (hf : f_M_next_293  x2 σ = some out) : V l d F 0 0 (MW d h σ) [some (.ref (h 0)), none, some (.int x2), none, none] 293 [] := by
  unfold f_M_next_293 at hf
  refine zr_aload_n 0 294 C (by decide +kernel) rfl rfl ?_
  refine zr_iload_n 2 295 C (by decide +kernel) rfl rfl ?_
  refine zr_iconst (v := 4) 4 296 C (by decide +kernel) rfl rfl ?_
  refine zr_icmp_le (off := 7) 303 299 C (by decide +kernel) (by decide) rfl hf (fun hf => ?_) (fun hf => ?_)
  · refine zr_iconst (v := 1) 1 304 C (by decide +kernel) rfl rfl ?_
    refine zr_less (zN (zN (zN (zN (zN zE))))) ?_
    exact w_M_next_304 C T _ _ hf
  · refine zr_iconst (v := (-1)) (-1) 300 C (by decide +kernel) rfl rfl ?_
    refine zr_goto (off := 4) 304 C (by decide +kernel) (by decide) ?_
    refine zr_less (zN (zN (zN (zN (zN zE))))) ?_
    exact w_M_next_304 C T _ _ hf
def f_M_next_274 (k214 : Int32 → zS → Option (Int32 × zS)) (x2 : Int32) (y1 : Int32) (σ : zS) : Option (Int32 × zS) :=
  zlt (zsg σ 38 y1) fun σ1 =>
  zlt (zsg σ1 35 ((σ1.1 35) + 1)) fun σ2 =>
  k214 (x2 + 1) σ2
set_option maxRecDepth 4000 in
theorem w_M_next_274 {l : Launch} {d : zD} {F : zF} {h : Nat → Nat} {out : Int32 × zS} {k214 : Int32 → zS → Option (Int32 × zS)} (C : zOk d F RX11 cX11_next 5 2 45) (T : zRt d F none none (MW d h out.2)) (H214 : ∀ (x2 : Int32) (σ : zS), k214 x2 σ = some out → V l d F 0 0 (MW d h σ) [some (.ref (h 0)), none, some (.int x2), none, none] 214 []) (x2 : Int32) (y1 : Int32) (σ : zS) (hf : f_M_next_274 k214 x2 y1 σ = some out) : V l d F 0 0 (MW d h σ) [some (.ref (h 0)), none, some (.int x2), none, none] 274 [.int y1, .ref (h 0)] := by
  unfold f_M_next_274 at hf
  refine mp_0_38 (idx := 171) 277 C (by decide +kernel) rfl q_1029 hf (fun σ1 hf => ?_)
  refine zr_iinc (j := 1) 2 [some (.ref (h 0)), none, some (.int (x2 + 1)), none, none] 280 C (by decide +kernel) rfl rfl rfl (by decide) rfl rfl ?_
  refine zr_aload_n 0 281 C (by decide +kernel) rfl rfl ?_
  refine zr_dup 282 C (by decide +kernel) rfl rfl ?_
  refine mg_0_35 (idx := 162) 285 C (by decide +kernel) rfl q_1026 ?_
  refine zr_iconst (v := 1) 1 286 C (by decide +kernel) rfl rfl ?_
  refine zr_iadd 287 C (by decide +kernel) rfl ?_
  refine mp_0_35 (idx := 162) 290 C (by decide +kernel) rfl q_1026 hf (fun σ2 hf => ?_)
  refine zr_goto (off := -76) 214 C (by decide +kernel) (by decide) ?_
  exact H214 _ _ hf
def f_M_next_214b (k214 : Int32 → zS → Option (Int32 × zS)) (x2 : Int32) (σ : zS) : Option (Int32 × zS) :=
  (if (σ.1 20) ≤ (σ.1 35) then
  f_M_next_293 x2 σ
  else
  zin (σ.1 35) 160 (zbd (f_M_in (σ.2 14 (σ.1 35).toNatClampNeg) 48 57 σ) fun r2 σ1 =>
  (if r2 = 0 then
  f_M_next_293 x2 σ1
  else
  (if 4 ≤ x2 then
  f_M_next_274 k214 x2 0 σ1
  else
  zin (σ1.1 35) 160 (f_M_next_274 k214 x2 (((10 * (σ1.1 38)) + (σ1.2 14 (σ1.1 35).toNatClampNeg)) - 48) σ1)))))
set_option maxRecDepth 4000 in
theorem w_M_next_214b {l : Launch} {d : zD} {F : zF} {h : Nat → Nat} {out : Int32 × zS} {k214 : Int32 → zS → Option (Int32 × zS)} (C : zOk d F RX11 cX11_next 5 2 45) (T : zRt d F none none (MW d h out.2)) (H214 : ∀ (x2 : Int32) (σ : zS), k214 x2 σ = some out → V l d F 0 0 (MW d h σ) [some (.ref (h 0)), none, some (.int x2), none, none] 214 []) (x2 : Int32) (σ : zS) (hf : f_M_next_214b k214 x2 σ = some out) : V l d F 0 0 (MW d h σ) [some (.ref (h 0)), none, some (.int x2), none, none] 214 [] := by
  unfold f_M_next_214b at hf
  refine zr_aload_n 0 215 C (by decide +kernel) rfl rfl ?_
  refine mg_0_35 (idx := 162) 218 C (by decide +kernel) rfl q_1026 ?_
  refine zr_aload_n 0 219 C (by decide +kernel) rfl rfl ?_
  refine mg_0_20 (idx := 157) 222 C (by decide +kernel) rfl q_1011 ?_
  refine zr_icmp_ge (off := 71) 293 225 C (by decide +kernel) (by decide) rfl hf (fun hf => ?_) (fun hf => ?_)
  · exact w_M_next_293 C T _ _ hf
  · refine zr_aload_n 0 226 C (by decide +kernel) rfl rfl ?_
    refine mg_0_19 (idx := 49) 229 C (by decide +kernel) rfl q_1010 ?_
    refine zr_aload_n 0 230 C (by decide +kernel) rfl rfl ?_
    refine mg_0_35 (idx := 162) 233 C (by decide +kernel) rfl q_1026 ?_
    refine ml_14 234 C (by decide +kernel) rfl hf (fun hf => ?_)
    refine zr_bipush (v := 48) 48 236 C (by decide +kernel) rfl rfl ?_
    refine zr_bipush (v := 57) 57 238 C (by decide +kernel) rfl rfl ?_
    refine k_M_in (idx := 139) 241 C (by decide +kernel) rfl q_1181 (zb2 rfl rfl) (Nat.le_of_ble_eq_true rfl) hf (fun r2 σ1 hf => ?_)
    refine zr_if_eq (off := 52) 293 244 C (by decide +kernel) (by decide) rfl hf (fun hf => ?_) (fun hf => ?_)
    · exact w_M_next_293 C T _ _ hf
    · refine zr_aload_n 0 245 C (by decide +kernel) rfl rfl ?_
      refine zr_iload_n 2 246 C (by decide +kernel) rfl rfl ?_
      refine zr_iconst (v := 4) 4 247 C (by decide +kernel) rfl rfl ?_
      refine zr_icmp_ge (off := 26) 273 250 C (by decide +kernel) (by decide) rfl hf (fun hf => ?_) (fun hf => ?_)
      · refine zr_iconst (v := 0) 0 274 C (by decide +kernel) rfl rfl ?_
        exact w_M_next_274 C T H214 _ _ _ hf
      · refine zr_bipush (v := 10) 10 252 C (by decide +kernel) rfl rfl ?_
        refine zr_aload_n 0 253 C (by decide +kernel) rfl rfl ?_
        refine mg_0_38 (idx := 171) 256 C (by decide +kernel) rfl q_1029 ?_
        refine zr_imul 257 C (by decide +kernel) rfl ?_
        refine zr_aload_n 0 258 C (by decide +kernel) rfl rfl ?_
        refine mg_0_19 (idx := 49) 261 C (by decide +kernel) rfl q_1010 ?_
        refine zr_aload_n 0 262 C (by decide +kernel) rfl rfl ?_
        refine mg_0_35 (idx := 162) 265 C (by decide +kernel) rfl q_1026 ?_
        refine ml_14 266 C (by decide +kernel) rfl hf (fun hf => ?_)
        refine zr_iadd 267 C (by decide +kernel) rfl ?_
        refine zr_bipush (v := 48) 48 269 C (by decide +kernel) rfl rfl ?_
        refine zr_isub 270 C (by decide +kernel) rfl ?_
        refine zr_goto (off := 4) 274 C (by decide +kernel) (by decide) ?_
        exact w_M_next_274 C T H214 _ _ _ hf
def f_M_next_214  : Nat → Int32 → zS → Option (Int32 × zS)
  | 0, _, _ => none
  | n + 1, x2,  σ => f_M_next_214b (fun x2 σ => f_M_next_214  n x2 σ) x2 σ
theorem w_M_next_214 {l : Launch} {d : zD} {F : zF} {h : Nat → Nat} {out : Int32 × zS}  (C : zOk d F RX11 cX11_next 5 2 45) (T : zRt d F none none (MW d h out.2))  : ∀ (n : Nat) (x2 : Int32) (σ : zS), f_M_next_214  n x2 σ = some out → V l d F 0 0 (MW d h σ) [some (.ref (h 0)), none, some (.int x2), none, none] 214 [] := by
  intro n
  induction n with
  | zero =>
    intro x2 σ hf
    cases hf
  | succ n ih =>
    intro x2 σ hf
    exact w_M_next_214b C T ih x2 σ hf
def f_M_next_195  (y1 : Int32) (σ : zS) : Option (Int32 × zS) :=
  zlt (zsg σ 38 y1) fun σ1 =>
  some (0, σ1)
set_option maxRecDepth 4000 in
theorem w_M_next_195 {l : Launch} {d : zD} {F : zF} {h : Nat → Nat} {out : Int32 × zS}  (C : zOk d F RX11 cX11_next 5 2 45) (T : zRt d F none none (MW d h out.2))  (y1 : Int32) (σ : zS) (hf : f_M_next_195  y1 σ = some out) : V l d F 0 0 (MW d h σ) [none, none, none, none, none] 195 [.int y1, .ref (h 0)] := by
  unfold f_M_next_195 at hf
  refine mp_0_38 (idx := 171) 198 C (by decide +kernel) rfl q_1029 hf (fun σ1 hf => ?_)
  refine zr_goto (off := 189) 387 C (by decide +kernel) (by decide) ?_
  obtain rfl := Option.some.inj hf
  exact zr_vret C (by decide +kernel) T
def f_M_next_176  (x4 : Int32) (y1 : Int32) (σ : zS) : Option (Int32 × zS) :=
  zlt (zsg σ 37 y1) fun σ1 =>
  (if 2 ≤ x4 then
  f_M_next_195 (x4 - 2) σ1
  else
  f_M_next_195 x4 σ1)
set_option maxRecDepth 4000 in
theorem w_M_next_176 {l : Launch} {d : zD} {F : zF} {h : Nat → Nat} {out : Int32 × zS}  (C : zOk d F RX11 cX11_next 5 2 45) (T : zRt d F none none (MW d h out.2))  (x4 : Int32) (y1 : Int32) (σ : zS) (hf : f_M_next_176  x4 y1 σ = some out) : V l d F 0 0 (MW d h σ) [some (.ref (h 0)), none, none, none, some (.int x4)] 176 [.int y1, .ref (h 0)] := by
  unfold f_M_next_176 at hf
  refine mp_0_37 (idx := 168) 179 C (by decide +kernel) rfl q_1028 hf (fun σ1 hf => ?_)
  refine zr_aload_n 0 180 C (by decide +kernel) rfl rfl ?_
  refine zr_iload 4 182 C (by decide +kernel) rfl rfl ?_
  refine zr_iconst (v := 2) 2 183 C (by decide +kernel) rfl rfl ?_
  refine zr_icmp_ge (off := 8) 191 186 C (by decide +kernel) (by decide) rfl hf (fun hf => ?_) (fun hf => ?_)
  · refine zr_iload 4 193 C (by decide +kernel) rfl rfl ?_
    refine zr_iconst (v := 2) 2 194 C (by decide +kernel) rfl rfl ?_
    refine zr_isub 195 C (by decide +kernel) rfl ?_
    refine zr_less (zN (zN (zN (zN (zN zE))))) ?_
    exact w_M_next_195 C T _ _ hf
  · refine zr_iload 4 188 C (by decide +kernel) rfl rfl ?_
    refine zr_goto (off := 7) 195 C (by decide +kernel) (by decide) ?_
    refine zr_less (zN (zN (zN (zN (zN zE))))) ?_
    exact w_M_next_195 C T _ _ hf
def f_M_next_136  (x4 : Int32) (σ : zS) : Option (Int32 × zS) :=
  (if 2 ≤ x4 then
  (if 8 ≤ x4 then
  (if x4 = 11 then
  f_M_next_176 x4 (-1) σ
  else
  f_M_next_176 x4 ((4 + x4) - 8) σ)
  else
  f_M_next_176 x4 2 σ)
  else
  f_M_next_176 x4 3 σ)
set_option maxRecDepth 4000 in
theorem w_M_next_136 {l : Launch} {d : zD} {F : zF} {h : Nat → Nat} {out : Int32 × zS}  (C : zOk d F RX11 cX11_next 5 2 45) (T : zRt d F none none (MW d h out.2))  (x4 : Int32) (σ : zS) (hf : f_M_next_136  x4 σ = some out) : V l d F 0 0 (MW d h σ) [some (.ref (h 0)), none, none, none, some (.int x4)] 136 [] := by
  unfold f_M_next_136 at hf
  refine zr_aload_n 0 137 C (by decide +kernel) rfl rfl ?_
  refine zr_iload 4 139 C (by decide +kernel) rfl rfl ?_
  refine zr_iconst (v := 2) 2 140 C (by decide +kernel) rfl rfl ?_
  refine zr_icmp_ge (off := 7) 147 143 C (by decide +kernel) (by decide) rfl hf (fun hf => ?_) (fun hf => ?_)
  · refine zr_iload 4 149 C (by decide +kernel) rfl rfl ?_
    refine zr_bipush (v := 8) 8 151 C (by decide +kernel) rfl rfl ?_
    refine zr_icmp_ge (off := 7) 158 154 C (by decide +kernel) (by decide) rfl hf (fun hf => ?_) (fun hf => ?_)
    · refine zr_iload 4 160 C (by decide +kernel) rfl rfl ?_
      refine zr_bipush (v := 11) 11 162 C (by decide +kernel) rfl rfl ?_
      refine zr_icmp_ne (off := 7) 169 165 C (by decide +kernel) (by decide) rfl hf (fun hf => ?_) (fun hf => ?_)
      · refine zr_iconst (v := 4) 4 170 C (by decide +kernel) rfl rfl ?_
        refine zr_iload 4 172 C (by decide +kernel) rfl rfl ?_
        refine zr_iadd 173 C (by decide +kernel) rfl ?_
        refine zr_bipush (v := 8) 8 175 C (by decide +kernel) rfl rfl ?_
        refine zr_isub 176 C (by decide +kernel) rfl ?_
        exact w_M_next_176 C T _ _ _ hf
      · refine zr_iconst (v := (-1)) (-1) 166 C (by decide +kernel) rfl rfl ?_
        refine zr_goto (off := 10) 176 C (by decide +kernel) (by decide) ?_
        exact w_M_next_176 C T _ _ _ hf
    · refine zr_iconst (v := 2) 2 155 C (by decide +kernel) rfl rfl ?_
      refine zr_goto (off := 21) 176 C (by decide +kernel) (by decide) ?_
      exact w_M_next_176 C T _ _ _ hf
  · refine zr_iconst (v := 3) 3 144 C (by decide +kernel) rfl rfl ?_
    refine zr_goto (off := 32) 176 C (by decide +kernel) (by decide) ?_
    exact w_M_next_176 C T _ _ _ hf
def f_M_next_111b (k111 : Int64 → Int32 → zS → Option (Int32 × zS)) (x2 : Int64) (x4 : Int32) (σ : zS) : Option (Int32 × zS) :=
  (if 11 ≤ x4 then
  f_M_next_136 x4 σ
  else
  zin x4 11 ((if (zWords x4.toNatClampNeg) = x2 then
  f_M_next_136 x4 σ
  else
  k111 x2 (x4 + 1) σ)))
set_option maxRecDepth 4000 in
theorem w_M_next_111b {l : Launch} {d : zD} {F : zF} {h : Nat → Nat} {out : Int32 × zS} {k111 : Int64 → Int32 → zS → Option (Int32 × zS)} (C : zOk d F RX11 cX11_next 5 2 45) (T : zRt d F none none (MW d h out.2)) (H111 : ∀ (x2 : Int64) (x4 : Int32) (σ : zS), k111 x2 x4 σ = some out → V l d F 0 0 (MW d h σ) [some (.ref (h 0)), none, some (.long x2), none, some (.int x4)] 111 []) (x2 : Int64) (x4 : Int32) (σ : zS) (hf : f_M_next_111b k111 x2 x4 σ = some out) : V l d F 0 0 (MW d h σ) [some (.ref (h 0)), none, some (.long x2), none, some (.int x4)] 111 [] := by
  unfold f_M_next_111b at hf
  refine zr_iload 4 113 C (by decide +kernel) rfl rfl ?_
  refine zr_bipush (v := 11) 11 115 C (by decide +kernel) rfl rfl ?_
  refine zr_icmp_ge (off := 21) 136 118 C (by decide +kernel) (by decide) rfl hf (fun hf => ?_) (fun hf => ?_)
  · refine zr_less (zA (zN (zN (zN (zA zE))))) ?_
    exact w_M_next_136 C T _ _ hf
  · refine zr_aload_n 0 119 C (by decide +kernel) rfl rfl ?_
    refine mg_0_39 (idx := 99) 122 C (by decide +kernel) rfl q_1030 ?_
    refine zr_iload 4 124 C (by decide +kernel) rfl rfl ?_
    refine ml_22 125 C (by decide +kernel) rfl hf (fun hf => ?_)
    refine zr_lload_n 2 126 C (by decide +kernel) rfl rfl ?_
    refine zr_lcmp_eq (off := 9) 136 127 130 C (by decide +kernel) rfl (by decide +kernel) (by decide) rfl hf (fun hf => ?_) (fun hf => ?_)
    · refine zr_less (zA (zN (zN (zN (zA zE))))) ?_
      exact w_M_next_136 C T _ _ hf
    · refine zr_iinc (j := 1) 4 [some (.ref (h 0)), none, some (.long x2), none, some (.int (x4 + 1))] 133 C (by decide +kernel) rfl rfl rfl (by decide) rfl rfl ?_
      refine zr_goto (off := -22) 111 C (by decide +kernel) (by decide) ?_
      exact H111 _ _ _ hf
def f_M_next_111  : Nat → Int64 → Int32 → zS → Option (Int32 × zS)
  | 0, _, _, _ => none
  | n + 1, x2, x4,  σ => f_M_next_111b (fun x2 x4 σ => f_M_next_111  n x2 x4 σ) x2 x4 σ
theorem w_M_next_111 {l : Launch} {d : zD} {F : zF} {h : Nat → Nat} {out : Int32 × zS}  (C : zOk d F RX11 cX11_next 5 2 45) (T : zRt d F none none (MW d h out.2))  : ∀ (n : Nat) (x2 : Int64) (x4 : Int32) (σ : zS), f_M_next_111  n x2 x4 σ = some out → V l d F 0 0 (MW d h σ) [some (.ref (h 0)), none, some (.long x2), none, some (.int x4)] 111 [] := by
  intro n
  induction n with
  | zero =>
    intro x2 x4 σ hf
    cases hf
  | succ n ih =>
    intro x2 x4 σ hf
    exact w_M_next_111b C T ih x2 x4 σ hf
def f_M_next_52   (σ : zS) : Option (Int32 × zS) :=
  zlt (zsg σ 36 (σ.1 35)) fun σ1 =>
  zlt (zsg σ1 37 0) fun σ2 =>
  zlt (zsg σ2 38 0) fun σ3 =>
  (if (σ3.1 35) = (σ3.1 20) then
  some (0, σ3)
  else
  zin (σ3.1 35) 160 (zlt (σ3.2 14 (σ3.1 35).toNatClampNeg) fun v4 => 
  zbd (f_M_in v4 97 122 σ3) fun r6 σ5 =>
  (if r6 = 0 then
  zbd (f_M_in v4 48 57 σ5) fun r8 σ7 =>
  (if r8 = 0 then
  (if v4 = 40 then
  f_M_next_358 v4 σ7
  else
  (if v4 = 41 then
  f_M_next_358 v4 σ7
  else
  (if v4 = 59 then
  f_M_next_358 v4 σ7
  else
  (if v4 = 43 then
  f_M_next_358 v4 σ7
  else
  (if v4 = 45 then
  f_M_next_358 v4 σ7
  else
  (if v4 = 42 then
  f_M_next_358 v4 σ7
  else
  (if v4 = 60 then
  f_M_next_358 v4 σ7
  else
  (if v4 = 61 then
  f_M_next_358 v4 σ7
  else
  f_M_next_363 v4 0 σ7))))))))
  else
  f_M_next_214 zfu 0 σ7)
  else
  zbd (f_M_letters  σ5) fun r10 σ9 =>
  f_M_next_111 zfu r10 0 σ9)))
set_option maxRecDepth 4000 in
theorem w_M_next_52 {l : Launch} {d : zD} {F : zF} {h : Nat → Nat} {out : Int32 × zS}  (C : zOk d F RX11 cX11_next 5 2 45) (T : zRt d F none none (MW d h out.2))   (σ : zS) (hf : f_M_next_52   σ = some out) : V l d F 0 0 (MW d h σ) [some (.ref (h 0)), none, none, none, none] 52 [] := by
  unfold f_M_next_52 at hf
  refine zr_aload_n 0 53 C (by decide +kernel) rfl rfl ?_
  refine zr_aload_n 0 54 C (by decide +kernel) rfl rfl ?_
  refine mg_0_35 (idx := 162) 57 C (by decide +kernel) rfl q_1026 ?_
  refine mp_0_36 (idx := 165) 60 C (by decide +kernel) rfl q_1027 hf (fun σ1 hf => ?_)
  refine zr_aload_n 0 61 C (by decide +kernel) rfl rfl ?_
  refine zr_iconst (v := 0) 0 62 C (by decide +kernel) rfl rfl ?_
  refine mp_0_37 (idx := 168) 65 C (by decide +kernel) rfl q_1028 hf (fun σ2 hf => ?_)
  refine zr_aload_n 0 66 C (by decide +kernel) rfl rfl ?_
  refine zr_iconst (v := 0) 0 67 C (by decide +kernel) rfl rfl ?_
  refine mp_0_38 (idx := 171) 70 C (by decide +kernel) rfl q_1029 hf (fun σ3 hf => ?_)
  refine zr_aload_n 0 71 C (by decide +kernel) rfl rfl ?_
  refine mg_0_35 (idx := 162) 74 C (by decide +kernel) rfl q_1026 ?_
  refine zr_aload_n 0 75 C (by decide +kernel) rfl rfl ?_
  refine mg_0_20 (idx := 157) 78 C (by decide +kernel) rfl q_1011 ?_
  refine zr_icmp_ne (off := 4) 82 81 C (by decide +kernel) (by decide) rfl hf (fun hf => ?_) (fun hf => ?_)
  · refine zr_aload_n 0 83 C (by decide +kernel) rfl rfl ?_
    refine mg_0_19 (idx := 49) 86 C (by decide +kernel) rfl q_1010 ?_
    refine zr_aload_n 0 87 C (by decide +kernel) rfl rfl ?_
    refine mg_0_35 (idx := 162) 90 C (by decide +kernel) rfl q_1026 ?_
    refine ml_14 91 C (by decide +kernel) rfl hf (fun hf => ?_)
    refine zr_name hf (fun v4 hf => ?_)
    refine zr_istore_n 1 [some (.ref (h 0)), some (.int v4), none, none, none] 92 C (by decide +kernel) rfl (by decide) rfl rfl ?_
    refine zr_iload_n 1 93 C (by decide +kernel) rfl rfl ?_
    refine zr_bipush (v := 97) 97 95 C (by decide +kernel) rfl rfl ?_
    refine zr_bipush (v := 122) 122 97 C (by decide +kernel) rfl rfl ?_
    refine k_M_in (idx := 139) 100 C (by decide +kernel) rfl q_1181 (zb2 rfl rfl) (Nat.le_of_ble_eq_true rfl) hf (fun r6 σ5 hf => ?_)
    refine zr_if_eq (off := 101) 201 103 C (by decide +kernel) (by decide) rfl hf (fun hf => ?_) (fun hf => ?_)
    · refine zr_iload_n 1 202 C (by decide +kernel) rfl rfl ?_
      refine zr_bipush (v := 48) 48 204 C (by decide +kernel) rfl rfl ?_
      refine zr_bipush (v := 57) 57 206 C (by decide +kernel) rfl rfl ?_
      refine k_M_in (idx := 139) 209 C (by decide +kernel) rfl q_1181 (zb2 rfl rfl) (Nat.le_of_ble_eq_true rfl) hf (fun r8 σ7 hf => ?_)
      refine zr_if_eq (off := 101) 310 212 C (by decide +kernel) (by decide) rfl hf (fun hf => ?_) (fun hf => ?_)
      · refine zr_iload_n 1 311 C (by decide +kernel) rfl rfl ?_
        refine zr_bipush (v := 40) 40 313 C (by decide +kernel) rfl rfl ?_
        refine zr_icmp_eq (off := 45) 358 316 C (by decide +kernel) (by decide) rfl hf (fun hf => ?_) (fun hf => ?_)
        · exact w_M_next_358 C T _ _ hf
        · refine zr_iload_n 1 317 C (by decide +kernel) rfl rfl ?_
          refine zr_bipush (v := 41) 41 319 C (by decide +kernel) rfl rfl ?_
          refine zr_icmp_eq (off := 39) 358 322 C (by decide +kernel) (by decide) rfl hf (fun hf => ?_) (fun hf => ?_)
          · exact w_M_next_358 C T _ _ hf
          · refine zr_iload_n 1 323 C (by decide +kernel) rfl rfl ?_
            refine zr_bipush (v := 59) 59 325 C (by decide +kernel) rfl rfl ?_
            refine zr_icmp_eq (off := 33) 358 328 C (by decide +kernel) (by decide) rfl hf (fun hf => ?_) (fun hf => ?_)
            · exact w_M_next_358 C T _ _ hf
            · refine zr_iload_n 1 329 C (by decide +kernel) rfl rfl ?_
              refine zr_bipush (v := 43) 43 331 C (by decide +kernel) rfl rfl ?_
              refine zr_icmp_eq (off := 27) 358 334 C (by decide +kernel) (by decide) rfl hf (fun hf => ?_) (fun hf => ?_)
              · exact w_M_next_358 C T _ _ hf
              · refine zr_iload_n 1 335 C (by decide +kernel) rfl rfl ?_
                refine zr_bipush (v := 45) 45 337 C (by decide +kernel) rfl rfl ?_
                refine zr_icmp_eq (off := 21) 358 340 C (by decide +kernel) (by decide) rfl hf (fun hf => ?_) (fun hf => ?_)
                · exact w_M_next_358 C T _ _ hf
                · refine zr_iload_n 1 341 C (by decide +kernel) rfl rfl ?_
                  refine zr_bipush (v := 42) 42 343 C (by decide +kernel) rfl rfl ?_
                  refine zr_icmp_eq (off := 15) 358 346 C (by decide +kernel) (by decide) rfl hf (fun hf => ?_) (fun hf => ?_)
                  · exact w_M_next_358 C T _ _ hf
                  · refine zr_iload_n 1 347 C (by decide +kernel) rfl rfl ?_
                    refine zr_bipush (v := 60) 60 349 C (by decide +kernel) rfl rfl ?_
                    refine zr_icmp_eq (off := 9) 358 352 C (by decide +kernel) (by decide) rfl hf (fun hf => ?_) (fun hf => ?_)
                    · exact w_M_next_358 C T _ _ hf
                    · refine zr_iload_n 1 353 C (by decide +kernel) rfl rfl ?_
                      refine zr_bipush (v := 61) 61 355 C (by decide +kernel) rfl rfl ?_
                      refine zr_icmp_ne (off := 7) 362 358 C (by decide +kernel) (by decide) rfl hf (fun hf => ?_) (fun hf => ?_)
                      · refine zr_iconst (v := 0) 0 363 C (by decide +kernel) rfl rfl ?_
                        exact w_M_next_363 C T _ _ _ hf
                      · exact w_M_next_358 C T _ _ hf
      · refine zr_iconst (v := 0) 0 213 C (by decide +kernel) rfl rfl ?_
        refine zr_istore_n 2 [some (.ref (h 0)), some (.int v4), some (.int 0), none, none] 214 C (by decide +kernel) rfl (by decide) rfl rfl ?_
        refine zr_less (zA (zN (zA (zN (zN zE))))) ?_
        exact w_M_next_214 C T zfu _ _ hf
    · refine zr_aload_n 0 104 C (by decide +kernel) rfl rfl ?_
      refine k_M_letters (idx := 174) 107 C (by decide +kernel) rfl q_1205 (zb2 rfl rfl) (Nat.le_of_ble_eq_true rfl) hf (fun r10 σ9 hf => ?_)
      refine zr_lstore_n 2 [some (.ref (h 0)), some (.int v4), some (.long r10), none, none] 108 C (by decide +kernel) rfl (by decide) rfl rfl ?_
      refine zr_iconst (v := 0) 0 109 C (by decide +kernel) rfl rfl ?_
      refine zr_istore 4 [some (.ref (h 0)), some (.int v4), some (.long r10), none, some (.int 0)] 111 C (by decide +kernel) rfl (by decide) rfl rfl ?_
      refine zr_less (zA (zN (zA (zN (zA zE))))) ?_
      exact w_M_next_111 C T zfu _ _ _ hf
  · obtain rfl := Option.some.inj hf
    exact zr_vret C (by decide +kernel) T
def f_M_next_39 (k0 : zS → Option (Int32 × zS))  (σ : zS) : Option (Int32 × zS) :=
  zlt (zsg σ 35 ((σ.1 35) + 1)) fun σ1 =>
  k0 σ1
set_option maxRecDepth 4000 in
theorem w_M_next_39 {l : Launch} {d : zD} {F : zF} {h : Nat → Nat} {out : Int32 × zS} {k0 : zS → Option (Int32 × zS)} (C : zOk d F RX11 cX11_next 5 2 45) (T : zRt d F none none (MW d h out.2)) (H0 : ∀  (σ : zS), k0  σ = some out → V l d F 0 0 (MW d h σ) [some (.ref (h 0)), none, none, none, none] 0 [])  (σ : zS) (hf : f_M_next_39 k0  σ = some out) : V l d F 0 0 (MW d h σ) [some (.ref (h 0)), none, none, none, none] 39 [] := by
  unfold f_M_next_39 at hf
  refine zr_aload_n 0 40 C (by decide +kernel) rfl rfl ?_
  refine zr_dup 41 C (by decide +kernel) rfl rfl ?_
  refine mg_0_35 (idx := 162) 44 C (by decide +kernel) rfl q_1026 ?_
  refine zr_iconst (v := 1) 1 45 C (by decide +kernel) rfl rfl ?_
  refine zr_iadd 46 C (by decide +kernel) rfl ?_
  refine mp_0_35 (idx := 162) 49 C (by decide +kernel) rfl q_1026 hf (fun σ1 hf => ?_)
  refine zr_goto (off := -49) 0 C (by decide +kernel) (by decide) ?_
  exact H0 _ hf
def f_M_next_0b (k0 : zS → Option (Int32 × zS))  (σ : zS) : Option (Int32 × zS) :=
  (if (σ.1 20) ≤ (σ.1 35) then
  f_M_next_52 σ
  else
  zin (σ.1 35) 160 ((if (σ.2 14 (σ.1 35).toNatClampNeg) = 32 then
  f_M_next_39 k0 σ
  else
  zin (σ.1 35) 160 ((if (σ.2 14 (σ.1 35).toNatClampNeg) = 10 then
  f_M_next_39 k0 σ
  else
  f_M_next_52 σ)))))
set_option maxRecDepth 4000 in
theorem w_M_next_0b {l : Launch} {d : zD} {F : zF} {h : Nat → Nat} {out : Int32 × zS} {k0 : zS → Option (Int32 × zS)} (C : zOk d F RX11 cX11_next 5 2 45) (T : zRt d F none none (MW d h out.2)) (H0 : ∀  (σ : zS), k0  σ = some out → V l d F 0 0 (MW d h σ) [some (.ref (h 0)), none, none, none, none] 0 [])  (σ : zS) (hf : f_M_next_0b k0  σ = some out) : V l d F 0 0 (MW d h σ) [some (.ref (h 0)), none, none, none, none] 0 [] := by
  unfold f_M_next_0b at hf
  refine zr_aload_n 0 1 C (by decide +kernel) rfl rfl ?_
  refine mg_0_35 (idx := 162) 4 C (by decide +kernel) rfl q_1026 ?_
  refine zr_aload_n 0 5 C (by decide +kernel) rfl rfl ?_
  refine mg_0_20 (idx := 157) 8 C (by decide +kernel) rfl q_1011 ?_
  refine zr_icmp_ge (off := 44) 52 11 C (by decide +kernel) (by decide) rfl hf (fun hf => ?_) (fun hf => ?_)
  · exact w_M_next_52 C T _ hf
  · refine zr_aload_n 0 12 C (by decide +kernel) rfl rfl ?_
    refine mg_0_19 (idx := 49) 15 C (by decide +kernel) rfl q_1010 ?_
    refine zr_aload_n 0 16 C (by decide +kernel) rfl rfl ?_
    refine mg_0_35 (idx := 162) 19 C (by decide +kernel) rfl q_1026 ?_
    refine ml_14 20 C (by decide +kernel) rfl hf (fun hf => ?_)
    refine zr_bipush (v := 32) 32 22 C (by decide +kernel) rfl rfl ?_
    refine zr_icmp_eq (off := 17) 39 25 C (by decide +kernel) (by decide) rfl hf (fun hf => ?_) (fun hf => ?_)
    · exact w_M_next_39 C T H0 _ hf
    · refine zr_aload_n 0 26 C (by decide +kernel) rfl rfl ?_
      refine mg_0_19 (idx := 49) 29 C (by decide +kernel) rfl q_1010 ?_
      refine zr_aload_n 0 30 C (by decide +kernel) rfl rfl ?_
      refine mg_0_35 (idx := 162) 33 C (by decide +kernel) rfl q_1026 ?_
      refine ml_14 34 C (by decide +kernel) rfl hf (fun hf => ?_)
      refine zr_bipush (v := 10) 10 36 C (by decide +kernel) rfl rfl ?_
      refine zr_icmp_ne (off := 16) 52 39 C (by decide +kernel) (by decide) rfl hf (fun hf => ?_) (fun hf => ?_)
      · exact w_M_next_52 C T _ hf
      · exact w_M_next_39 C T H0 _ hf
def f_M_next_0  : Nat → zS → Option (Int32 × zS)
  | 0, _ => none
  | n + 1,  σ => f_M_next_0b (fun  σ => f_M_next_0  n  σ)  σ
theorem w_M_next_0 {l : Launch} {d : zD} {F : zF} {h : Nat → Nat} {out : Int32 × zS}  (C : zOk d F RX11 cX11_next 5 2 45) (T : zRt d F none none (MW d h out.2))  : ∀ (n : Nat)  (σ : zS), f_M_next_0  n  σ = some out → V l d F 0 0 (MW d h σ) [some (.ref (h 0)), none, none, none, none] 0 [] := by
  intro n
  induction n with
  | zero =>
    intro  σ hf
    cases hf
  | succ n ih =>
    intro  σ hf
    exact w_M_next_0b C T ih  σ hf
def f_M_next  (σ : zS) : Option (Int32 × zS) :=
  f_M_next_0 zfu σ
set_option maxRecDepth 4000 in
theorem m_M_next {l : Launch} {d : zD} {h : Nat → Nat} {out : Int32 × zS} {σ : zS}  (hf : f_M_next  σ = some out) : zM l yX11_next cX11_next 5 none 2 45 d [.ref (h 0)] (MW d h σ) (MW d h out.2) none := by
  refine zM_of [some (.ref (h 0)), none, none, none, none] (by decide +kernel) rfl (Nat.le_of_ble_eq_true rfl) (fun F C T => ?_)
  unfold f_M_next at hf
  exact w_M_next_0 C T zfu _ hf
theorem y_M_next : zY yX11_next cX11_next 5 none 0 := ⟨q_1204, q_90, by decide +kernel, by decide +kernel, by decide +kernel⟩
theorem k_M_next {l : Launch} {d : zD} {F : zF} {h : Nat → Nat} {σ : zS} {lv : List (Option Value)} {pc : Nat} {own : String} {cc : ByteArray} {nL fr lo idx : Nat} {rest : List Value} {β : Type} {kf : Int32 → zS → Option β} {o2 : β}  (pc' : Nat) (C : zOk d F own cc nL fr lo) (hd : decode cc pc = .ok (.invokevirtual idx, 3)) (hp : pc + 3 = pc') (hq : Cond.methodLink own idx yX11_next ∈ zW) (hm : 2 + 1 ≤ fr ∧ 8 + (5 + 11) + 45 ≤ lo) (hr : (rest.map fun v => v.category).sum ≤ 8) (hf : zbd (f_M_next  σ) kf = some o2) (K : ∀ (r : Int32) (σ' : zS), kf r σ' = some o2 → V l d F 0 0 (MW d h σ') lv pc' (rest)) : V l d F 0 0 (MW d h σ) lv pc (.ref (h 0) :: rest) := by
  obtain ⟨q, h1, h2⟩ := zbd_some hf
  exact zr_callV y_M_next ⟨q_1203, q_38⟩ 0 rfl rfl (As := []) (m_M_next h1) rfl rfl pc' C hd hp hq hm hr (K _ _ h2)
/-! StepsBeyondModel.rank(I)I -/
def f_M_rank (p0 : Int32) (σ : zS) : Option (Int32 × zS) :=
  (if p0 = 0 then
  some (0, σ)
  else
  (if p0 = 11 then
  some (1, σ)
  else
  (if p0 = 12 then
  some (2, σ)
  else
  (if p0 = 13 then
  some (3, σ)
  else
  (if 15 < p0 then
  (if 17 < p0 then
  (if p0 = 18 then
  some (6, σ)
  else
  some (7, σ))
  else
  some (5, σ))
  else
  some (4, σ))))))
set_option maxRecDepth 4000 in
theorem m_M_rank {l : Launch} {d : zD} {h : Nat → Nat} {out : Int32 × zS} {σ : zS} {p0 : Int32} (hf : f_M_rank p0 σ = some out) : zM l yX11_rank cX11_rank 1 (some .int) 0 0 d [.int p0] (MW d h σ) (MW d h out.2) (some (.int out.1)) := by
  refine zM_of [some (.int p0)] (by decide +kernel) rfl (Nat.le_of_ble_eq_true rfl) (fun F C T => ?_)
  unfold f_M_rank at hf
  refine zr_iload_n 0 1 C (by decide +kernel) rfl rfl ?_
  refine zr_if_ne (off := 7) 8 4 C (by decide +kernel) (by decide) rfl hf (fun hf => ?_) (fun hf => ?_)
  · refine zr_iload_n 0 9 C (by decide +kernel) rfl rfl ?_
    refine zr_bipush (v := 11) 11 11 C (by decide +kernel) rfl rfl ?_
    refine zr_icmp_ne (off := 7) 18 14 C (by decide +kernel) (by decide) rfl hf (fun hf => ?_) (fun hf => ?_)
    · refine zr_iload_n 0 19 C (by decide +kernel) rfl rfl ?_
      refine zr_bipush (v := 12) 12 21 C (by decide +kernel) rfl rfl ?_
      refine zr_icmp_ne (off := 7) 28 24 C (by decide +kernel) (by decide) rfl hf (fun hf => ?_) (fun hf => ?_)
      · refine zr_iload_n 0 29 C (by decide +kernel) rfl rfl ?_
        refine zr_bipush (v := 13) 13 31 C (by decide +kernel) rfl rfl ?_
        refine zr_icmp_ne (off := 7) 38 34 C (by decide +kernel) (by decide) rfl hf (fun hf => ?_) (fun hf => ?_)
        · refine zr_iload_n 0 39 C (by decide +kernel) rfl rfl ?_
          refine zr_bipush (v := 15) 15 41 C (by decide +kernel) rfl rfl ?_
          refine zr_icmp_gt (off := 7) 48 44 C (by decide +kernel) (by decide) rfl hf (fun hf => ?_) (fun hf => ?_)
          · refine zr_iload_n 0 49 C (by decide +kernel) rfl rfl ?_
            refine zr_bipush (v := 17) 17 51 C (by decide +kernel) rfl rfl ?_
            refine zr_icmp_gt (off := 7) 58 54 C (by decide +kernel) (by decide) rfl hf (fun hf => ?_) (fun hf => ?_)
            · refine zr_iload_n 0 59 C (by decide +kernel) rfl rfl ?_
              refine zr_bipush (v := 18) 18 61 C (by decide +kernel) rfl rfl ?_
              refine zr_icmp_ne (off := 8) 69 64 C (by decide +kernel) (by decide) rfl hf (fun hf => ?_) (fun hf => ?_)
              · refine zr_bipush (v := 7) 7 71 C (by decide +kernel) rfl rfl ?_
                obtain rfl := Option.some.inj hf
                exact zr_iret C (by decide +kernel) T
              · refine zr_bipush (v := 6) 6 66 C (by decide +kernel) rfl rfl ?_
                refine zr_goto (off := 5) 71 C (by decide +kernel) (by decide) ?_
                obtain rfl := Option.some.inj hf
                exact zr_iret C (by decide +kernel) T
            · refine zr_iconst (v := 5) 5 55 C (by decide +kernel) rfl rfl ?_
              refine zr_goto (off := 16) 71 C (by decide +kernel) (by decide) ?_
              obtain rfl := Option.some.inj hf
              exact zr_iret C (by decide +kernel) T
          · refine zr_iconst (v := 4) 4 45 C (by decide +kernel) rfl rfl ?_
            refine zr_goto (off := 26) 71 C (by decide +kernel) (by decide) ?_
            obtain rfl := Option.some.inj hf
            exact zr_iret C (by decide +kernel) T
        · refine zr_iconst (v := 3) 3 35 C (by decide +kernel) rfl rfl ?_
          refine zr_goto (off := 36) 71 C (by decide +kernel) (by decide) ?_
          obtain rfl := Option.some.inj hf
          exact zr_iret C (by decide +kernel) T
      · refine zr_iconst (v := 2) 2 25 C (by decide +kernel) rfl rfl ?_
        refine zr_goto (off := 46) 71 C (by decide +kernel) (by decide) ?_
        obtain rfl := Option.some.inj hf
        exact zr_iret C (by decide +kernel) T
    · refine zr_iconst (v := 1) 1 15 C (by decide +kernel) rfl rfl ?_
      refine zr_goto (off := 56) 71 C (by decide +kernel) (by decide) ?_
      obtain rfl := Option.some.inj hf
      exact zr_iret C (by decide +kernel) T
  · refine zr_iconst (v := 0) 0 5 C (by decide +kernel) rfl rfl ?_
    refine zr_goto (off := 66) 71 C (by decide +kernel) (by decide) ?_
    obtain rfl := Option.some.inj hf
    exact zr_iret C (by decide +kernel) T
theorem y_M_rank : zY yX11_rank cX11_rank 1 (some .int) 1 := ⟨q_1224, q_90, by decide +kernel, by decide +kernel, by decide +kernel⟩
theorem k_M_rank {l : Launch} {d : zD} {F : zF} {h : Nat → Nat} {σ : zS} {lv : List (Option Value)} {pc : Nat} {own : String} {cc : ByteArray} {nL fr lo idx : Nat} {rest : List Value} {β : Type} {kf : Int32 → zS → Option β} {o2 : β} {p0 : Int32} (pc' : Nat) (C : zOk d F own cc nL fr lo) (hd : decode cc pc = .ok (.invokestatic idx, 3)) (hp : pc + 3 = pc') (hq : Cond.methodLink own idx yX11_rank ∈ zW) (hm : 0 + 1 ≤ fr ∧ 8 + (1 + 11) + 0 ≤ lo) (hr : (rest.map fun v => v.category).sum ≤ 8) (hf : zbd (f_M_rank p0 σ) kf = some o2) (K : ∀ (r : Int32) (σ' : zS), kf r σ' = some o2 → V l d F 0 0 (MW d h σ') lv pc' (.int r :: rest)) : V l d F 0 0 (MW d h σ) lv pc (.int p0 :: rest) := by
  obtain ⟨q, h1, h2⟩ := zbd_some hf
  exact zr_callS y_M_rank q_1223 (As := [.int p0]) (m_M_rank h1) rfl rfl pc' C hd hp hq hm hr (K _ _ h2)
/-! StepsBeyondModel.puts(I)V -/
def f_M_puts (p1 : Int32) (σ : zS) : Option (Int32 × zS) :=
  zin ((200 * (σ.1 23)) + (σ.1 43)) 1200 (zlt (zsa σ 15 ((200 * (σ.1 23)) + (σ.1 43)) p1) fun σ1 =>
  zlt (zsg σ1 43 ((σ1.1 43) + 1)) fun σ2 =>
  some (0, σ2))
set_option maxRecDepth 4000 in
theorem m_M_puts {l : Launch} {d : zD} {h : Nat → Nat} {out : Int32 × zS} {σ : zS} {p1 : Int32} (hf : f_M_puts p1 σ = some out) : zM l yX11_puts cX11_puts 2 none 0 0 d [.ref (h 0), .int p1] (MW d h σ) (MW d h out.2) none := by
  refine zM_of [some (.ref (h 0)), some (.int p1)] (by decide +kernel) rfl (Nat.le_of_ble_eq_true rfl) (fun F C T => ?_)
  unfold f_M_puts at hf
  refine zr_aload_n 0 1 C (by decide +kernel) rfl rfl ?_
  refine mg_0_21 (idx := 52) 4 C (by decide +kernel) rfl q_1012 ?_
  refine zr_sipush (v := 200) 200 7 C (by decide +kernel) rfl rfl ?_
  refine zr_aload_n 0 8 C (by decide +kernel) rfl rfl ?_
  refine mg_0_23 (idx := 58) 11 C (by decide +kernel) rfl q_1014 ?_
  refine zr_imul 12 C (by decide +kernel) rfl ?_
  refine zr_aload_n 0 13 C (by decide +kernel) rfl rfl ?_
  refine mg_0_43 (idx := 178) 16 C (by decide +kernel) rfl q_1034 ?_
  refine zr_iadd 17 C (by decide +kernel) rfl ?_
  refine zr_iload_n 1 18 C (by decide +kernel) rfl rfl ?_
  refine ms_15 19 C (by decide +kernel) rfl hf (fun σ1 hf => ?_)
  refine zr_aload_n 0 20 C (by decide +kernel) rfl rfl ?_
  refine zr_dup 21 C (by decide +kernel) rfl rfl ?_
  refine mg_0_43 (idx := 178) 24 C (by decide +kernel) rfl q_1034 ?_
  refine zr_iconst (v := 1) 1 25 C (by decide +kernel) rfl rfl ?_
  refine zr_iadd 26 C (by decide +kernel) rfl ?_
  refine mp_0_43 (idx := 178) 29 C (by decide +kernel) rfl q_1034 hf (fun σ2 hf => ?_)
  obtain rfl := Option.some.inj hf
  exact zr_vret C (by decide +kernel) T
theorem y_M_puts : zY yX11_puts cX11_puts 2 none 1 := ⟨q_1217, q_90, by decide +kernel, by decide +kernel, by decide +kernel⟩
theorem k_M_puts {l : Launch} {d : zD} {F : zF} {h : Nat → Nat} {σ : zS} {lv : List (Option Value)} {pc : Nat} {own : String} {cc : ByteArray} {nL fr lo idx : Nat} {rest : List Value} {β : Type} {kf : Int32 → zS → Option β} {o2 : β} {p1 : Int32} (pc' : Nat) (C : zOk d F own cc nL fr lo) (hd : decode cc pc = .ok (.invokevirtual idx, 3)) (hp : pc + 3 = pc') (hq : Cond.methodLink own idx yX11_puts ∈ zW) (hm : 0 + 1 ≤ fr ∧ 8 + (2 + 11) + 0 ≤ lo) (hr : (rest.map fun v => v.category).sum ≤ 8) (hf : zbd (f_M_puts p1 σ) kf = some o2) (K : ∀ (r : Int32) (σ' : zS), kf r σ' = some o2 → V l d F 0 0 (MW d h σ') lv pc' (rest)) : V l d F 0 0 (MW d h σ) lv pc (.int p1 :: .ref (h 0) :: rest) := by
  obtain ⟨q, h1, h2⟩ := zbd_some hf
  exact zr_callV y_M_puts ⟨q_1216, q_41⟩ 0 rfl rfl (As := [.int p1]) (m_M_puts h1) rfl rfl pc' C hd hp hq hm hr (K _ _ h2)
/-! StepsBeyondModel.unwinds(I)V -/
def f_M_unwinds_67 (k0 : Int32 → zS → Option (Int32 × zS)) (x1 : Int32) (x2 : Int32) (y1 : Int32) (y2 : Int32) (σ : zS) : Option (Int32 × zS) :=
  zlt (zsg σ 42 (y1 - y2)) fun σ1 =>
  zbd (f_M_puts x2 σ1) fun _ σ2 =>
  k0 x1 σ2
set_option maxRecDepth 4000 in
theorem w_M_unwinds_67 {l : Launch} {d : zD} {F : zF} {h : Nat → Nat} {out : Int32 × zS} {k0 : Int32 → zS → Option (Int32 × zS)} (C : zOk d F RX11 cX11_unwinds 3 1 21) (T : zRt d F none none (MW d h out.2)) (H0 : ∀ (x1 : Int32) (σ : zS), k0 x1 σ = some out → V l d F 0 0 (MW d h σ) [some (.ref (h 0)), some (.int x1), none] 0 []) (x1 : Int32) (x2 : Int32) (y1 : Int32) (y2 : Int32) (σ : zS) (hf : f_M_unwinds_67 k0 x1 x2 y1 y2 σ = some out) : V l d F 0 0 (MW d h σ) [some (.ref (h 0)), some (.int x1), some (.int x2)] 67 [.int y2, .int y1, .ref (h 0)] := by
  unfold f_M_unwinds_67 at hf
  refine zr_isub 68 C (by decide +kernel) rfl ?_
  refine mp_0_42 (idx := 187) 71 C (by decide +kernel) rfl q_1033 hf (fun σ1 hf => ?_)
  refine zr_aload_n 0 72 C (by decide +kernel) rfl rfl ?_
  refine zr_iload_n 2 73 C (by decide +kernel) rfl rfl ?_
  refine k_M_puts (idx := 190) 76 C (by decide +kernel) rfl q_1214 (zb2 rfl rfl) (Nat.le_of_ble_eq_true rfl) hf (fun _ σ2 hf => ?_)
  refine zr_goto (off := -76) 0 C (by decide +kernel) (by decide) ?_
  refine zr_less (zA (zA (zN zE))) ?_
  exact H0 _ _ hf
def f_M_unwinds_62 (k0 : Int32 → zS → Option (Int32 × zS)) (x1 : Int32) (x2 : Int32) (y1 : Int32) (σ : zS) : Option (Int32 × zS) :=
  f_M_unwinds_67 k0 x1 x2 y1 1 σ
set_option maxRecDepth 4000 in
theorem w_M_unwinds_62 {l : Launch} {d : zD} {F : zF} {h : Nat → Nat} {out : Int32 × zS} {k0 : Int32 → zS → Option (Int32 × zS)} (C : zOk d F RX11 cX11_unwinds 3 1 21) (T : zRt d F none none (MW d h out.2)) (H0 : ∀ (x1 : Int32) (σ : zS), k0 x1 σ = some out → V l d F 0 0 (MW d h σ) [some (.ref (h 0)), some (.int x1), none] 0 []) (x1 : Int32) (x2 : Int32) (y1 : Int32) (σ : zS) (hf : f_M_unwinds_62 k0 x1 x2 y1 σ = some out) : V l d F 0 0 (MW d h σ) [some (.ref (h 0)), some (.int x1), some (.int x2)] 62 [.int y1, .ref (h 0)] := by
  unfold f_M_unwinds_62 at hf
  refine zr_iconst (v := 1) 1 63 C (by decide +kernel) rfl rfl ?_
  refine zr_goto (off := 4) 67 C (by decide +kernel) (by decide) ?_
  exact w_M_unwinds_67 C T H0 _ _ _ _ _ hf
def f_M_unwinds_0b (k0 : Int32 → zS → Option (Int32 × zS)) (x1 : Int32) (σ : zS) : Option (Int32 × zS) :=
  (if (σ.1 41) ≤ 0 then
  some (0, σ)
  else
  zin ((σ.1 41) - 1) 200 (zbd (f_M_rank (σ.2 23 ((σ.1 41) - 1).toNatClampNeg) σ) fun r2 σ1 =>
  (if r2 < x1 then
  some (0, σ1)
  else
  zlt (zsg σ1 41 ((σ1.1 41) - 1)) fun σ3 =>
  zin (σ3.1 41) 200 (zlt (σ3.2 23 (σ3.1 41).toNatClampNeg) fun v4 => 
  (if v4 = 13 then
  f_M_unwinds_62 k0 x1 v4 (σ3.1 42) σ3
  else
  (if v4 = 19 then
  f_M_unwinds_62 k0 x1 v4 (σ3.1 42) σ3
  else
  f_M_unwinds_67 k0 x1 v4 (σ3.1 42) 0 σ3))))))
set_option maxRecDepth 4000 in
theorem w_M_unwinds_0b {l : Launch} {d : zD} {F : zF} {h : Nat → Nat} {out : Int32 × zS} {k0 : Int32 → zS → Option (Int32 × zS)} (C : zOk d F RX11 cX11_unwinds 3 1 21) (T : zRt d F none none (MW d h out.2)) (H0 : ∀ (x1 : Int32) (σ : zS), k0 x1 σ = some out → V l d F 0 0 (MW d h σ) [some (.ref (h 0)), some (.int x1), none] 0 []) (x1 : Int32) (σ : zS) (hf : f_M_unwinds_0b k0 x1 σ = some out) : V l d F 0 0 (MW d h σ) [some (.ref (h 0)), some (.int x1), none] 0 [] := by
  unfold f_M_unwinds_0b at hf
  refine zr_aload_n 0 1 C (by decide +kernel) rfl rfl ?_
  refine mg_0_41 (idx := 181) 4 C (by decide +kernel) rfl q_1032 ?_
  refine zr_if_le (off := 75) 79 7 C (by decide +kernel) (by decide) rfl hf (fun hf => ?_) (fun hf => ?_)
  · obtain rfl := Option.some.inj hf
    exact zr_vret C (by decide +kernel) T
  · refine zr_aload_n 0 8 C (by decide +kernel) rfl rfl ?_
    refine mg_0_40 (idx := 103) 11 C (by decide +kernel) rfl q_1031 ?_
    refine zr_aload_n 0 12 C (by decide +kernel) rfl rfl ?_
    refine mg_0_41 (idx := 181) 15 C (by decide +kernel) rfl q_1032 ?_
    refine zr_iconst (v := 1) 1 16 C (by decide +kernel) rfl rfl ?_
    refine zr_isub 17 C (by decide +kernel) rfl ?_
    refine ml_23 18 C (by decide +kernel) rfl hf (fun hf => ?_)
    refine k_M_rank (idx := 184) 21 C (by decide +kernel) rfl q_1222 (zb2 rfl rfl) (Nat.le_of_ble_eq_true rfl) hf (fun r2 σ1 hf => ?_)
    refine zr_iload_n 1 22 C (by decide +kernel) rfl rfl ?_
    refine zr_icmp_lt (off := 57) 79 25 C (by decide +kernel) (by decide) rfl hf (fun hf => ?_) (fun hf => ?_)
    · obtain rfl := Option.some.inj hf
      exact zr_vret C (by decide +kernel) T
    · refine zr_aload_n 0 26 C (by decide +kernel) rfl rfl ?_
      refine zr_dup 27 C (by decide +kernel) rfl rfl ?_
      refine mg_0_41 (idx := 181) 30 C (by decide +kernel) rfl q_1032 ?_
      refine zr_iconst (v := 1) 1 31 C (by decide +kernel) rfl rfl ?_
      refine zr_isub 32 C (by decide +kernel) rfl ?_
      refine mp_0_41 (idx := 181) 35 C (by decide +kernel) rfl q_1032 hf (fun σ3 hf => ?_)
      refine zr_aload_n 0 36 C (by decide +kernel) rfl rfl ?_
      refine mg_0_40 (idx := 103) 39 C (by decide +kernel) rfl q_1031 ?_
      refine zr_aload_n 0 40 C (by decide +kernel) rfl rfl ?_
      refine mg_0_41 (idx := 181) 43 C (by decide +kernel) rfl q_1032 ?_
      refine ml_23 44 C (by decide +kernel) rfl hf (fun hf => ?_)
      refine zr_name hf (fun v4 hf => ?_)
      refine zr_istore_n 2 [some (.ref (h 0)), some (.int x1), some (.int v4)] 45 C (by decide +kernel) rfl (by decide) rfl rfl ?_
      refine zr_aload_n 0 46 C (by decide +kernel) rfl rfl ?_
      refine zr_dup 47 C (by decide +kernel) rfl rfl ?_
      refine mg_0_42 (idx := 187) 50 C (by decide +kernel) rfl q_1033 ?_
      refine zr_iload_n 2 51 C (by decide +kernel) rfl rfl ?_
      refine zr_bipush (v := 13) 13 53 C (by decide +kernel) rfl rfl ?_
      refine zr_icmp_eq (off := 9) 62 56 C (by decide +kernel) (by decide) rfl hf (fun hf => ?_) (fun hf => ?_)
      · exact w_M_unwinds_62 C T H0 _ _ _ _ hf
      · refine zr_iload_n 2 57 C (by decide +kernel) rfl rfl ?_
        refine zr_bipush (v := 19) 19 59 C (by decide +kernel) rfl rfl ?_
        refine zr_icmp_ne (off := 7) 66 62 C (by decide +kernel) (by decide) rfl hf (fun hf => ?_) (fun hf => ?_)
        · refine zr_iconst (v := 0) 0 67 C (by decide +kernel) rfl rfl ?_
          exact w_M_unwinds_67 C T H0 _ _ _ _ _ hf
        · exact w_M_unwinds_62 C T H0 _ _ _ _ hf
def f_M_unwinds_0  : Nat → Int32 → zS → Option (Int32 × zS)
  | 0, _, _ => none
  | n + 1, x1,  σ => f_M_unwinds_0b (fun x1 σ => f_M_unwinds_0  n x1 σ) x1 σ
theorem w_M_unwinds_0 {l : Launch} {d : zD} {F : zF} {h : Nat → Nat} {out : Int32 × zS}  (C : zOk d F RX11 cX11_unwinds 3 1 21) (T : zRt d F none none (MW d h out.2))  : ∀ (n : Nat) (x1 : Int32) (σ : zS), f_M_unwinds_0  n x1 σ = some out → V l d F 0 0 (MW d h σ) [some (.ref (h 0)), some (.int x1), none] 0 [] := by
  intro n
  induction n with
  | zero =>
    intro x1 σ hf
    cases hf
  | succ n ih =>
    intro x1 σ hf
    exact w_M_unwinds_0b C T ih x1 σ hf
def f_M_unwinds (p1 : Int32) (σ : zS) : Option (Int32 × zS) :=
  f_M_unwinds_0 zfu p1 σ
set_option maxRecDepth 4000 in
theorem m_M_unwinds {l : Launch} {d : zD} {h : Nat → Nat} {out : Int32 × zS} {σ : zS} {p1 : Int32} (hf : f_M_unwinds p1 σ = some out) : zM l yX11_unwinds cX11_unwinds 3 none 1 21 d [.ref (h 0), .int p1] (MW d h σ) (MW d h out.2) none := by
  refine zM_of [some (.ref (h 0)), some (.int p1), none] (by decide +kernel) rfl (Nat.le_of_ble_eq_true rfl) (fun F C T => ?_)
  unfold f_M_unwinds at hf
  exact w_M_unwinds_0 C T zfu _ _ hf
theorem y_M_unwinds : zY yX11_unwinds cX11_unwinds 3 none 1 := ⟨q_1221, q_90, by decide +kernel, by decide +kernel, by decide +kernel⟩
theorem k_M_unwinds {l : Launch} {d : zD} {F : zF} {h : Nat → Nat} {σ : zS} {lv : List (Option Value)} {pc : Nat} {own : String} {cc : ByteArray} {nL fr lo idx : Nat} {rest : List Value} {β : Type} {kf : Int32 → zS → Option β} {o2 : β} {p1 : Int32} (pc' : Nat) (C : zOk d F own cc nL fr lo) (hd : decode cc pc = .ok (.invokevirtual idx, 3)) (hp : pc + 3 = pc') (hq : Cond.methodLink own idx yX11_unwinds ∈ zW) (hm : 1 + 1 ≤ fr ∧ 8 + (3 + 11) + 21 ≤ lo) (hr : (rest.map fun v => v.category).sum ≤ 8) (hf : zbd (f_M_unwinds p1 σ) kf = some o2) (K : ∀ (r : Int32) (σ' : zS), kf r σ' = some o2 → V l d F 0 0 (MW d h σ') lv pc' (rest)) : V l d F 0 0 (MW d h σ) lv pc (.int p1 :: .ref (h 0) :: rest) := by
  obtain ⟨q, h1, h2⟩ := zbd_some hf
  exact zr_callV y_M_unwinds ⟨q_1220, q_42⟩ 0 rfl rfl (As := [.int p1]) (m_M_unwinds h1) rfl rfl pc' C hd hp hq hm hr (K _ _ h2)
/-! StepsBeyondModel.holds(I)V -/
def f_M_holds (p1 : Int32) (σ : zS) : Option (Int32 × zS) :=
  zin (σ.1 41) 200 (zlt (zsa σ 23 (σ.1 41) p1) fun σ1 =>
  zlt (zsg σ1 41 ((σ1.1 41) + 1)) fun σ2 =>
  some (0, σ2))
set_option maxRecDepth 4000 in
theorem m_M_holds {l : Launch} {d : zD} {h : Nat → Nat} {out : Int32 × zS} {σ : zS} {p1 : Int32} (hf : f_M_holds p1 σ = some out) : zM l yX11_holds cX11_holds 2 none 0 0 d [.ref (h 0), .int p1] (MW d h σ) (MW d h out.2) none := by
  refine zM_of [some (.ref (h 0)), some (.int p1)] (by decide +kernel) rfl (Nat.le_of_ble_eq_true rfl) (fun F C T => ?_)
  unfold f_M_holds at hf
  refine zr_aload_n 0 1 C (by decide +kernel) rfl rfl ?_
  refine mg_0_40 (idx := 103) 4 C (by decide +kernel) rfl q_1031 ?_
  refine zr_aload_n 0 5 C (by decide +kernel) rfl rfl ?_
  refine mg_0_41 (idx := 181) 8 C (by decide +kernel) rfl q_1032 ?_
  refine zr_iload_n 1 9 C (by decide +kernel) rfl rfl ?_
  refine ms_23 10 C (by decide +kernel) rfl hf (fun σ1 hf => ?_)
  refine zr_aload_n 0 11 C (by decide +kernel) rfl rfl ?_
  refine zr_dup 12 C (by decide +kernel) rfl rfl ?_
  refine mg_0_41 (idx := 181) 15 C (by decide +kernel) rfl q_1032 ?_
  refine zr_iconst (v := 1) 1 16 C (by decide +kernel) rfl rfl ?_
  refine zr_iadd 17 C (by decide +kernel) rfl ?_
  refine mp_0_41 (idx := 181) 20 C (by decide +kernel) rfl q_1032 hf (fun σ2 hf => ?_)
  obtain rfl := Option.some.inj hf
  exact zr_vret C (by decide +kernel) T
theorem y_M_holds : zY yX11_holds cX11_holds 2 none 1 := ⟨q_1232, q_90, by decide +kernel, by decide +kernel, by decide +kernel⟩
theorem k_M_holds {l : Launch} {d : zD} {F : zF} {h : Nat → Nat} {σ : zS} {lv : List (Option Value)} {pc : Nat} {own : String} {cc : ByteArray} {nL fr lo idx : Nat} {rest : List Value} {β : Type} {kf : Int32 → zS → Option β} {o2 : β} {p1 : Int32} (pc' : Nat) (C : zOk d F own cc nL fr lo) (hd : decode cc pc = .ok (.invokevirtual idx, 3)) (hp : pc + 3 = pc') (hq : Cond.methodLink own idx yX11_holds ∈ zW) (hm : 0 + 1 ≤ fr ∧ 8 + (2 + 11) + 0 ≤ lo) (hr : (rest.map fun v => v.category).sum ≤ 8) (hf : zbd (f_M_holds p1 σ) kf = some o2) (K : ∀ (r : Int32) (σ' : zS), kf r σ' = some o2 → V l d F 0 0 (MW d h σ') lv pc' (rest)) : V l d F 0 0 (MW d h σ) lv pc (.int p1 :: .ref (h 0) :: rest) := by
  obtain ⟨q, h1, h2⟩ := zbd_some hf
  exact zr_callV y_M_holds ⟨q_1231, q_44⟩ 0 rfl rfl (As := [.int p1]) (m_M_holds h1) rfl rfl pc' C hd hp hq hm hr (K _ _ h2)
/-! StepsBeyondModel.opensOne(I)Z -/
def f_M_opensOne (p1 : Int32) (σ : zS) : Option (Int32 × zS) :=
  (if (σ.1 42) = 5 then
  some (0, σ)
  else
  zlt (zsg σ 42 ((σ.1 42) + 1)) fun σ1 =>
  zbd (f_M_holds p1 σ1) fun _ σ2 =>
  some (1, σ2))
set_option maxRecDepth 4000 in
theorem m_M_opensOne {l : Launch} {d : zD} {h : Nat → Nat} {out : Int32 × zS} {σ : zS} {p1 : Int32} (hf : f_M_opensOne p1 σ = some out) : zM l yX11_opensOne cX11_opensOne 2 (some .boolean) 1 21 d [.ref (h 0), .int p1] (MW d h σ) (MW d h out.2) (some (.int out.1)) := by
  refine zM_of [some (.ref (h 0)), some (.int p1)] (by decide +kernel) rfl (Nat.le_of_ble_eq_true rfl) (fun F C T => ?_)
  unfold f_M_opensOne at hf
  refine zr_aload_n 0 1 C (by decide +kernel) rfl rfl ?_
  refine mg_0_42 (idx := 187) 4 C (by decide +kernel) rfl q_1033 ?_
  refine zr_iconst (v := 5) 5 5 C (by decide +kernel) rfl rfl ?_
  refine zr_icmp_ne (off := 5) 10 8 C (by decide +kernel) (by decide) rfl hf (fun hf => ?_) (fun hf => ?_)
  · refine zr_aload_n 0 11 C (by decide +kernel) rfl rfl ?_
    refine zr_dup 12 C (by decide +kernel) rfl rfl ?_
    refine mg_0_42 (idx := 187) 15 C (by decide +kernel) rfl q_1033 ?_
    refine zr_iconst (v := 1) 1 16 C (by decide +kernel) rfl rfl ?_
    refine zr_iadd 17 C (by decide +kernel) rfl ?_
    refine mp_0_42 (idx := 187) 20 C (by decide +kernel) rfl q_1033 hf (fun σ1 hf => ?_)
    refine zr_aload_n 0 21 C (by decide +kernel) rfl rfl ?_
    refine zr_iload_n 1 22 C (by decide +kernel) rfl rfl ?_
    refine k_M_holds (idx := 194) 25 C (by decide +kernel) rfl q_1229 (zb2 rfl rfl) (Nat.le_of_ble_eq_true rfl) hf (fun _ σ2 hf => ?_)
    refine zr_iconst (v := 1) 1 26 C (by decide +kernel) rfl rfl ?_
    obtain rfl := Option.some.inj hf
    exact zr_zret C (by decide +kernel) rfl T
  · refine zr_iconst (v := 0) 0 9 C (by decide +kernel) rfl rfl ?_
    obtain rfl := Option.some.inj hf
    exact zr_zret C (by decide +kernel) rfl T
theorem y_M_opensOne : zY yX11_opensOne cX11_opensOne 2 (some .boolean) 1 := ⟨q_1228, q_90, by decide +kernel, by decide +kernel, by decide +kernel⟩
theorem k_M_opensOne {l : Launch} {d : zD} {F : zF} {h : Nat → Nat} {σ : zS} {lv : List (Option Value)} {pc : Nat} {own : String} {cc : ByteArray} {nL fr lo idx : Nat} {rest : List Value} {β : Type} {kf : Int32 → zS → Option β} {o2 : β} {p1 : Int32} (pc' : Nat) (C : zOk d F own cc nL fr lo) (hd : decode cc pc = .ok (.invokevirtual idx, 3)) (hp : pc + 3 = pc') (hq : Cond.methodLink own idx yX11_opensOne ∈ zW) (hm : 1 + 1 ≤ fr ∧ 8 + (2 + 11) + 21 ≤ lo) (hr : (rest.map fun v => v.category).sum ≤ 8) (hf : zbd (f_M_opensOne p1 σ) kf = some o2) (K : ∀ (r : Int32) (σ' : zS), kf r σ' = some o2 → V l d F 0 0 (MW d h σ') lv pc' (.int r :: rest)) : V l d F 0 0 (MW d h σ) lv pc (.int p1 :: .ref (h 0) :: rest) := by
  obtain ⟨q, h1, h2⟩ := zbd_some hf
  exact zr_callV y_M_opensOne ⟨q_1227, q_43⟩ 0 rfl rfl (As := [.int p1]) (m_M_opensOne h1) rfl rfl pc' C hd hp hq hm hr (K _ _ h2)
/-! StepsBeyondModel.between(I)Z -/
def f_M_between_55  (x1 : Int32) (σ : zS) : Option (Int32 × zS) :=
  zbd (f_M_holds x1 σ) fun _ σ1 =>
  some (1, σ1)
set_option maxRecDepth 4000 in
theorem w_M_between_55 {l : Launch} {d : zD} {F : zF} {h : Nat → Nat} {out : Int32 × zS}  (C : zOk d F RX11 cX11_between 2 2 43) (T : zRt d F (some .boolean) (some (.int out.1)) (MW d h out.2))  (x1 : Int32) (σ : zS) (hf : f_M_between_55  x1 σ = some out) : V l d F 0 0 (MW d h σ) [some (.ref (h 0)), some (.int x1)] 55 [] := by
  unfold f_M_between_55 at hf
  refine zr_aload_n 0 56 C (by decide +kernel) rfl rfl ?_
  refine zr_iload_n 1 57 C (by decide +kernel) rfl rfl ?_
  refine k_M_holds (idx := 194) 60 C (by decide +kernel) rfl q_1229 (zb2 rfl rfl) (Nat.le_of_ble_eq_true rfl) hf (fun _ σ1 hf => ?_)
  refine zr_iconst (v := 1) 1 61 C (by decide +kernel) rfl rfl ?_
  obtain rfl := Option.some.inj hf
  exact zr_zret C (by decide +kernel) rfl T
def f_M_between_17  (x1 : Int32) (y1 : Int32) (σ : zS) : Option (Int32 × zS) :=
  zbd (f_M_unwinds y1 σ) fun _ σ1 =>
  zbd (f_M_rank x1 σ1) fun r3 σ2 =>
  (if r3 = 4 then
  (if (σ2.1 41) ≤ 0 then
  f_M_between_55 x1 σ2
  else
  zin ((σ2.1 41) - 1) 200 (zbd (f_M_rank (σ2.2 23 ((σ2.1 41) - 1).toNatClampNeg) σ2) fun r5 σ4 =>
  (if r5 = 4 then
  some (0, σ4)
  else
  f_M_between_55 x1 σ4)))
  else
  f_M_between_55 x1 σ2)
set_option maxRecDepth 4000 in
theorem w_M_between_17 {l : Launch} {d : zD} {F : zF} {h : Nat → Nat} {out : Int32 × zS}  (C : zOk d F RX11 cX11_between 2 2 43) (T : zRt d F (some .boolean) (some (.int out.1)) (MW d h out.2))  (x1 : Int32) (y1 : Int32) (σ : zS) (hf : f_M_between_17  x1 y1 σ = some out) : V l d F 0 0 (MW d h σ) [some (.ref (h 0)), some (.int x1)] 17 [.int y1, .ref (h 0)] := by
  unfold f_M_between_17 at hf
  refine k_M_unwinds (idx := 197) 20 C (by decide +kernel) rfl q_1218 (zb2 rfl rfl) (Nat.le_of_ble_eq_true rfl) hf (fun _ σ1 hf => ?_)
  refine zr_iload_n 1 21 C (by decide +kernel) rfl rfl ?_
  refine k_M_rank (idx := 184) 24 C (by decide +kernel) rfl q_1222 (zb2 rfl rfl) (Nat.le_of_ble_eq_true rfl) hf (fun r3 σ2 hf => ?_)
  refine zr_iconst (v := 4) 4 25 C (by decide +kernel) rfl rfl ?_
  refine zr_icmp_ne (off := 30) 55 28 C (by decide +kernel) (by decide) rfl hf (fun hf => ?_) (fun hf => ?_)
  · exact w_M_between_55 C T _ _ hf
  · refine zr_aload_n 0 29 C (by decide +kernel) rfl rfl ?_
    refine mg_0_41 (idx := 181) 32 C (by decide +kernel) rfl q_1032 ?_
    refine zr_if_le (off := 23) 55 35 C (by decide +kernel) (by decide) rfl hf (fun hf => ?_) (fun hf => ?_)
    · exact w_M_between_55 C T _ _ hf
    · refine zr_aload_n 0 36 C (by decide +kernel) rfl rfl ?_
      refine mg_0_40 (idx := 103) 39 C (by decide +kernel) rfl q_1031 ?_
      refine zr_aload_n 0 40 C (by decide +kernel) rfl rfl ?_
      refine mg_0_41 (idx := 181) 43 C (by decide +kernel) rfl q_1032 ?_
      refine zr_iconst (v := 1) 1 44 C (by decide +kernel) rfl rfl ?_
      refine zr_isub 45 C (by decide +kernel) rfl ?_
      refine ml_23 46 C (by decide +kernel) rfl hf (fun hf => ?_)
      refine k_M_rank (idx := 184) 49 C (by decide +kernel) rfl q_1222 (zb2 rfl rfl) (Nat.le_of_ble_eq_true rfl) hf (fun r5 σ4 hf => ?_)
      refine zr_iconst (v := 4) 4 50 C (by decide +kernel) rfl rfl ?_
      refine zr_icmp_ne (off := 5) 55 53 C (by decide +kernel) (by decide) rfl hf (fun hf => ?_) (fun hf => ?_)
      · exact w_M_between_55 C T _ _ hf
      · refine zr_iconst (v := 0) 0 54 C (by decide +kernel) rfl rfl ?_
        obtain rfl := Option.some.inj hf
        exact zr_zret C (by decide +kernel) rfl T
def f_M_between (p1 : Int32) (σ : zS) : Option (Int32 × zS) :=
  zbd (f_M_rank p1 σ) fun r2 σ1 =>
  (if r2 = 4 then
  f_M_between_17 p1 5 σ1
  else
  zbd (f_M_rank p1 σ1) fun r4 σ3 =>
  f_M_between_17 p1 r4 σ3)
set_option maxRecDepth 4000 in
theorem m_M_between {l : Launch} {d : zD} {h : Nat → Nat} {out : Int32 × zS} {σ : zS} {p1 : Int32} (hf : f_M_between p1 σ = some out) : zM l yX11_between cX11_between 2 (some .boolean) 2 43 d [.ref (h 0), .int p1] (MW d h σ) (MW d h out.2) (some (.int out.1)) := by
  refine zM_of [some (.ref (h 0)), some (.int p1)] (by decide +kernel) rfl (Nat.le_of_ble_eq_true rfl) (fun F C T => ?_)
  unfold f_M_between at hf
  refine zr_aload_n 0 1 C (by decide +kernel) rfl rfl ?_
  refine zr_iload_n 1 2 C (by decide +kernel) rfl rfl ?_
  refine k_M_rank (idx := 184) 5 C (by decide +kernel) rfl q_1222 (zb2 rfl rfl) (Nat.le_of_ble_eq_true rfl) hf (fun r2 σ1 hf => ?_)
  refine zr_iconst (v := 4) 4 6 C (by decide +kernel) rfl rfl ?_
  refine zr_icmp_ne (off := 7) 13 9 C (by decide +kernel) (by decide) rfl hf (fun hf => ?_) (fun hf => ?_)
  · refine zr_iload_n 1 14 C (by decide +kernel) rfl rfl ?_
    refine k_M_rank (idx := 184) 17 C (by decide +kernel) rfl q_1222 (zb2 rfl rfl) (Nat.le_of_ble_eq_true rfl) hf (fun r4 σ3 hf => ?_)
    exact w_M_between_17 C T _ _ _ hf
  · refine zr_iconst (v := 5) 5 10 C (by decide +kernel) rfl rfl ?_
    refine zr_goto (off := 7) 17 C (by decide +kernel) (by decide) ?_
    exact w_M_between_17 C T _ _ _ hf
theorem y_M_between : zY yX11_between cX11_between 2 (some .boolean) 1 := ⟨q_1240, q_90, by decide +kernel, by decide +kernel, by decide +kernel⟩
theorem k_M_between {l : Launch} {d : zD} {F : zF} {h : Nat → Nat} {σ : zS} {lv : List (Option Value)} {pc : Nat} {own : String} {cc : ByteArray} {nL fr lo idx : Nat} {rest : List Value} {β : Type} {kf : Int32 → zS → Option β} {o2 : β} {p1 : Int32} (pc' : Nat) (C : zOk d F own cc nL fr lo) (hd : decode cc pc = .ok (.invokevirtual idx, 3)) (hp : pc + 3 = pc') (hq : Cond.methodLink own idx yX11_between ∈ zW) (hm : 2 + 1 ≤ fr ∧ 8 + (2 + 11) + 43 ≤ lo) (hr : (rest.map fun v => v.category).sum ≤ 8) (hf : zbd (f_M_between p1 σ) kf = some o2) (K : ∀ (r : Int32) (σ' : zS), kf r σ' = some o2 → V l d F 0 0 (MW d h σ') lv pc' (.int r :: rest)) : V l d F 0 0 (MW d h σ) lv pc (.int p1 :: .ref (h 0) :: rest) := by
  obtain ⟨q, h1, h2⟩ := zbd_some hf
  exact zr_callV y_M_between ⟨q_1239, q_46⟩ 0 rfl rfl (As := [.int p1]) (m_M_between h1) rfl rfl pc' C hd hp hq hm hr (K _ _ h2)
/-! StepsBeyondModel.signOf()I -/
def f_M_signOf  (σ : zS) : Option (Int32 × zS) :=
  (if (σ.1 37) = 4 then
  some (11, σ)
  else
  (if (σ.1 37) = 5 then
  some (12, σ)
  else
  (if (σ.1 37) = 60 then
  some (14, σ)
  else
  (if (σ.1 37) = 61 then
  some (15, σ)
  else
  (if (σ.1 37) = 43 then
  some (16, σ)
  else
  (if (σ.1 37) = 45 then
  some (17, σ)
  else
  (if (σ.1 37) = 42 then
  some (18, σ)
  else
  some (-1, σ))))))))
set_option maxRecDepth 4000 in
theorem m_M_signOf {l : Launch} {d : zD} {h : Nat → Nat} {out : Int32 × zS} {σ : zS}  (hf : f_M_signOf  σ = some out) : zM l yX11_signOf cX11_signOf 1 (some .int) 0 0 d [.ref (h 0)] (MW d h σ) (MW d h out.2) (some (.int out.1)) := by
  refine zM_of [some (.ref (h 0))] (by decide +kernel) rfl (Nat.le_of_ble_eq_true rfl) (fun F C T => ?_)
  unfold f_M_signOf at hf
  refine zr_aload_n 0 1 C (by decide +kernel) rfl rfl ?_
  refine mg_0_37 (idx := 168) 4 C (by decide +kernel) rfl q_1028 ?_
  refine zr_iconst (v := 4) 4 5 C (by decide +kernel) rfl rfl ?_
  refine zr_icmp_ne (off := 8) 13 8 C (by decide +kernel) (by decide) rfl hf (fun hf => ?_) (fun hf => ?_)
  · refine zr_aload_n 0 14 C (by decide +kernel) rfl rfl ?_
    refine mg_0_37 (idx := 168) 17 C (by decide +kernel) rfl q_1028 ?_
    refine zr_iconst (v := 5) 5 18 C (by decide +kernel) rfl rfl ?_
    refine zr_icmp_ne (off := 8) 26 21 C (by decide +kernel) (by decide) rfl hf (fun hf => ?_) (fun hf => ?_)
    · refine zr_aload_n 0 27 C (by decide +kernel) rfl rfl ?_
      refine mg_0_37 (idx := 168) 30 C (by decide +kernel) rfl q_1028 ?_
      refine zr_bipush (v := 60) 60 32 C (by decide +kernel) rfl rfl ?_
      refine zr_icmp_ne (off := 8) 40 35 C (by decide +kernel) (by decide) rfl hf (fun hf => ?_) (fun hf => ?_)
      · refine zr_aload_n 0 41 C (by decide +kernel) rfl rfl ?_
        refine mg_0_37 (idx := 168) 44 C (by decide +kernel) rfl q_1028 ?_
        refine zr_bipush (v := 61) 61 46 C (by decide +kernel) rfl rfl ?_
        refine zr_icmp_ne (off := 8) 54 49 C (by decide +kernel) (by decide) rfl hf (fun hf => ?_) (fun hf => ?_)
        · refine zr_aload_n 0 55 C (by decide +kernel) rfl rfl ?_
          refine mg_0_37 (idx := 168) 58 C (by decide +kernel) rfl q_1028 ?_
          refine zr_bipush (v := 43) 43 60 C (by decide +kernel) rfl rfl ?_
          refine zr_icmp_ne (off := 8) 68 63 C (by decide +kernel) (by decide) rfl hf (fun hf => ?_) (fun hf => ?_)
          · refine zr_aload_n 0 69 C (by decide +kernel) rfl rfl ?_
            refine mg_0_37 (idx := 168) 72 C (by decide +kernel) rfl q_1028 ?_
            refine zr_bipush (v := 45) 45 74 C (by decide +kernel) rfl rfl ?_
            refine zr_icmp_ne (off := 8) 82 77 C (by decide +kernel) (by decide) rfl hf (fun hf => ?_) (fun hf => ?_)
            · refine zr_aload_n 0 83 C (by decide +kernel) rfl rfl ?_
              refine mg_0_37 (idx := 168) 86 C (by decide +kernel) rfl q_1028 ?_
              refine zr_bipush (v := 42) 42 88 C (by decide +kernel) rfl rfl ?_
              refine zr_icmp_ne (off := 8) 96 91 C (by decide +kernel) (by decide) rfl hf (fun hf => ?_) (fun hf => ?_)
              · refine zr_iconst (v := (-1)) (-1) 97 C (by decide +kernel) rfl rfl ?_
                obtain rfl := Option.some.inj hf
                exact zr_iret C (by decide +kernel) T
              · refine zr_bipush (v := 18) 18 93 C (by decide +kernel) rfl rfl ?_
                refine zr_goto (off := 4) 97 C (by decide +kernel) (by decide) ?_
                obtain rfl := Option.some.inj hf
                exact zr_iret C (by decide +kernel) T
            · refine zr_bipush (v := 17) 17 79 C (by decide +kernel) rfl rfl ?_
              refine zr_goto (off := 18) 97 C (by decide +kernel) (by decide) ?_
              obtain rfl := Option.some.inj hf
              exact zr_iret C (by decide +kernel) T
          · refine zr_bipush (v := 16) 16 65 C (by decide +kernel) rfl rfl ?_
            refine zr_goto (off := 32) 97 C (by decide +kernel) (by decide) ?_
            obtain rfl := Option.some.inj hf
            exact zr_iret C (by decide +kernel) T
        · refine zr_bipush (v := 15) 15 51 C (by decide +kernel) rfl rfl ?_
          refine zr_goto (off := 46) 97 C (by decide +kernel) (by decide) ?_
          obtain rfl := Option.some.inj hf
          exact zr_iret C (by decide +kernel) T
      · refine zr_bipush (v := 14) 14 37 C (by decide +kernel) rfl rfl ?_
        refine zr_goto (off := 60) 97 C (by decide +kernel) (by decide) ?_
        obtain rfl := Option.some.inj hf
        exact zr_iret C (by decide +kernel) T
    · refine zr_bipush (v := 12) 12 23 C (by decide +kernel) rfl rfl ?_
      refine zr_goto (off := 74) 97 C (by decide +kernel) (by decide) ?_
      obtain rfl := Option.some.inj hf
      exact zr_iret C (by decide +kernel) T
  · refine zr_bipush (v := 11) 11 10 C (by decide +kernel) rfl rfl ?_
    refine zr_goto (off := 87) 97 C (by decide +kernel) (by decide) ?_
    obtain rfl := Option.some.inj hf
    exact zr_iret C (by decide +kernel) T
theorem y_M_signOf : zY yX11_signOf cX11_signOf 1 (some .int) 0 := ⟨q_1236, q_90, by decide +kernel, by decide +kernel, by decide +kernel⟩
theorem k_M_signOf {l : Launch} {d : zD} {F : zF} {h : Nat → Nat} {σ : zS} {lv : List (Option Value)} {pc : Nat} {own : String} {cc : ByteArray} {nL fr lo idx : Nat} {rest : List Value} {β : Type} {kf : Int32 → zS → Option β} {o2 : β}  (pc' : Nat) (C : zOk d F own cc nL fr lo) (hd : decode cc pc = .ok (.invokevirtual idx, 3)) (hp : pc + 3 = pc') (hq : Cond.methodLink own idx yX11_signOf ∈ zW) (hm : 0 + 1 ≤ fr ∧ 8 + (1 + 11) + 0 ≤ lo) (hr : (rest.map fun v => v.category).sum ≤ 8) (hf : zbd (f_M_signOf  σ) kf = some o2) (K : ∀ (r : Int32) (σ' : zS), kf r σ' = some o2 → V l d F 0 0 (MW d h σ') lv pc' (.int r :: rest)) : V l d F 0 0 (MW d h σ) lv pc (.ref (h 0) :: rest) := by
  obtain ⟨q, h1, h2⟩ := zbd_some hf
  exact zr_callV y_M_signOf ⟨q_1235, q_45⟩ 0 rfl rfl (As := []) (m_M_signOf h1) rfl rfl pc' C hd hp hq hm hr (K _ _ h2)
/-! StepsBeyondModel.eRead()Z -/
def f_M_eRead_262 (k14 : Int32 → Int32 → zS → Option (Int32 × zS)) (x1 : Int32) (y0 : Int32) (σ : zS) : Option (Int32 × zS) :=
  k14 x1 y0 σ
set_option maxRecDepth 4000 in
theorem w_M_eRead_262 {l : Launch} {d : zD} {F : zF} {h : Nat → Nat} {out : Int32 × zS} {k14 : Int32 → Int32 → zS → Option (Int32 × zS)} (C : zOk d F RX11 cX11_eRead 4 3 69) (T : zRt d F (some .boolean) (some (.int out.1)) (MW d h out.2)) (H14 : ∀ (x1 : Int32) (x2 : Int32) (σ : zS), k14 x1 x2 σ = some out → V l d F 0 0 (MW d h σ) [some (.ref (h 0)), some (.int x1), some (.int x2), none] 14 []) (x1 : Int32) (y0 : Int32) (σ : zS) (hf : f_M_eRead_262 k14 x1 y0 σ = some out) : V l d F 0 0 (MW d h σ) [some (.ref (h 0)), some (.int x1), none, none] 262 [.int y0] := by
  unfold f_M_eRead_262 at hf
  refine zr_istore_n 2 [some (.ref (h 0)), some (.int x1), some (.int y0), none] 263 C (by decide +kernel) rfl (by decide) rfl rfl ?_
  refine zr_goto (off := -249) 14 C (by decide +kernel) (by decide) ?_
  exact H14 _ _ _ hf
def f_M_eRead_99 (k14 : Int32 → Int32 → zS → Option (Int32 × zS)) (x1 : Int32) (σ : zS) : Option (Int32 × zS) :=
  (if (σ.1 37) = 45 then
  zbd (f_M_opensOne 19 σ) fun r4 σ3 =>
  (if r4 = 0 then
  some (0, σ3)
  else
  k14 x1 0 σ3)
  else
  (if (σ.1 37) = 40 then
  zbd (f_M_opensOne 0 σ) fun r2 σ1 =>
  (if r2 = 0 then
  some (0, σ1)
  else
  k14 x1 1 σ1)
  else
  some (0, σ)))
set_option maxRecDepth 4000 in
theorem w_M_eRead_99 {l : Launch} {d : zD} {F : zF} {h : Nat → Nat} {out : Int32 × zS} {k14 : Int32 → Int32 → zS → Option (Int32 × zS)} (C : zOk d F RX11 cX11_eRead 4 3 69) (T : zRt d F (some .boolean) (some (.int out.1)) (MW d h out.2)) (H14 : ∀ (x1 : Int32) (x2 : Int32) (σ : zS), k14 x1 x2 σ = some out → V l d F 0 0 (MW d h σ) [some (.ref (h 0)), some (.int x1), some (.int x2), none] 14 []) (x1 : Int32) (σ : zS) (hf : f_M_eRead_99 k14 x1 σ = some out) : V l d F 0 0 (MW d h σ) [some (.ref (h 0)), some (.int x1), none, none] 99 [] := by
  unfold f_M_eRead_99 at hf
  refine zr_aload_n 0 100 C (by decide +kernel) rfl rfl ?_
  refine mg_0_37 (idx := 168) 103 C (by decide +kernel) rfl q_1028 ?_
  refine zr_bipush (v := 45) 45 105 C (by decide +kernel) rfl rfl ?_
  refine zr_icmp_ne (off := 19) 124 108 C (by decide +kernel) (by decide) rfl hf (fun hf => ?_) (fun hf => ?_)
  · refine zr_aload_n 0 125 C (by decide +kernel) rfl rfl ?_
    refine mg_0_37 (idx := 168) 128 C (by decide +kernel) rfl q_1028 ?_
    refine zr_bipush (v := 40) 40 130 C (by decide +kernel) rfl rfl ?_
    refine zr_icmp_ne (off := 18) 148 133 C (by decide +kernel) (by decide) rfl hf (fun hf => ?_) (fun hf => ?_)
    · refine zr_iconst (v := 0) 0 149 C (by decide +kernel) rfl rfl ?_
      obtain rfl := Option.some.inj hf
      exact zr_zret C (by decide +kernel) rfl T
    · refine zr_aload_n 0 134 C (by decide +kernel) rfl rfl ?_
      refine zr_iconst (v := 0) 0 135 C (by decide +kernel) rfl rfl ?_
      refine k_M_opensOne (idx := 204) 138 C (by decide +kernel) rfl q_1225 (zb2 rfl rfl) (Nat.le_of_ble_eq_true rfl) hf (fun r2 σ1 hf => ?_)
      refine zr_if_ne (off := 5) 143 141 C (by decide +kernel) (by decide) rfl hf (fun hf => ?_) (fun hf => ?_)
      · refine zr_iconst (v := 1) 1 144 C (by decide +kernel) rfl rfl ?_
        refine zr_istore_n 2 [some (.ref (h 0)), some (.int x1), some (.int 1), none] 145 C (by decide +kernel) rfl (by decide) rfl rfl ?_
        refine zr_goto (off := -131) 14 C (by decide +kernel) (by decide) ?_
        exact H14 _ _ _ hf
      · refine zr_iconst (v := 0) 0 142 C (by decide +kernel) rfl rfl ?_
        obtain rfl := Option.some.inj hf
        exact zr_zret C (by decide +kernel) rfl T
  · refine zr_aload_n 0 109 C (by decide +kernel) rfl rfl ?_
    refine zr_bipush (v := 19) 19 111 C (by decide +kernel) rfl rfl ?_
    refine k_M_opensOne (idx := 204) 114 C (by decide +kernel) rfl q_1225 (zb2 rfl rfl) (Nat.le_of_ble_eq_true rfl) hf (fun r4 σ3 hf => ?_)
    refine zr_if_ne (off := 5) 119 117 C (by decide +kernel) (by decide) rfl hf (fun hf => ?_) (fun hf => ?_)
    · refine zr_iconst (v := 0) 0 120 C (by decide +kernel) rfl rfl ?_
      refine zr_istore_n 2 [some (.ref (h 0)), some (.int x1), some (.int 0), none] 121 C (by decide +kernel) rfl (by decide) rfl rfl ?_
      refine zr_goto (off := -107) 14 C (by decide +kernel) (by decide) ?_
      exact H14 _ _ _ hf
    · refine zr_iconst (v := 0) 0 118 C (by decide +kernel) rfl rfl ?_
      obtain rfl := Option.some.inj hf
      exact zr_zret C (by decide +kernel) rfl T
def f_M_eRead_61 (k14 : Int32 → Int32 → zS → Option (Int32 × zS)) (x2 : Int32) (y1 : Int32) (σ : zS) : Option (Int32 × zS) :=
  zbd (f_M_puts y1 σ) fun _ σ1 =>
  zbd (f_M_unwinds 7 σ1) fun _ σ2 =>
  k14 0 x2 σ2
set_option maxRecDepth 4000 in
theorem w_M_eRead_61 {l : Launch} {d : zD} {F : zF} {h : Nat → Nat} {out : Int32 × zS} {k14 : Int32 → Int32 → zS → Option (Int32 × zS)} (C : zOk d F RX11 cX11_eRead 4 3 69) (T : zRt d F (some .boolean) (some (.int out.1)) (MW d h out.2)) (H14 : ∀ (x1 : Int32) (x2 : Int32) (σ : zS), k14 x1 x2 σ = some out → V l d F 0 0 (MW d h σ) [some (.ref (h 0)), some (.int x1), some (.int x2), none] 14 []) (x2 : Int32) (y1 : Int32) (σ : zS) (hf : f_M_eRead_61 k14 x2 y1 σ = some out) : V l d F 0 0 (MW d h σ) [some (.ref (h 0)), none, some (.int x2), none] 61 [.int y1, .ref (h 0)] := by
  unfold f_M_eRead_61 at hf
  refine k_M_puts (idx := 190) 64 C (by decide +kernel) rfl q_1214 (zb2 rfl rfl) (Nat.le_of_ble_eq_true rfl) hf (fun _ σ1 hf => ?_)
  refine zr_aload_n 0 65 C (by decide +kernel) rfl rfl ?_
  refine zr_bipush (v := 7) 7 67 C (by decide +kernel) rfl rfl ?_
  refine k_M_unwinds (idx := 197) 70 C (by decide +kernel) rfl q_1218 (zb2 rfl rfl) (Nat.le_of_ble_eq_true rfl) hf (fun _ σ2 hf => ?_)
  refine zr_iconst (v := 0) 0 71 C (by decide +kernel) rfl rfl ?_
  refine zr_istore_n 1 [some (.ref (h 0)), some (.int 0), some (.int x2), none] 72 C (by decide +kernel) rfl (by decide) rfl rfl ?_
  refine zr_goto (off := -58) 14 C (by decide +kernel) (by decide) ?_
  exact H14 _ _ _ hf
def f_M_eRead_38 (k14 : Int32 → Int32 → zS → Option (Int32 × zS)) (x2 : Int32) (σ : zS) : Option (Int32 × zS) :=
  (if (σ.1 37) = 1 then
  f_M_eRead_61 k14 x2 (100000 + (σ.1 38)) σ
  else
  f_M_eRead_61 k14 x2 (σ.1 38) σ)
set_option maxRecDepth 4000 in
theorem w_M_eRead_38 {l : Launch} {d : zD} {F : zF} {h : Nat → Nat} {out : Int32 × zS} {k14 : Int32 → Int32 → zS → Option (Int32 × zS)} (C : zOk d F RX11 cX11_eRead 4 3 69) (T : zRt d F (some .boolean) (some (.int out.1)) (MW d h out.2)) (H14 : ∀ (x1 : Int32) (x2 : Int32) (σ : zS), k14 x1 x2 σ = some out → V l d F 0 0 (MW d h σ) [some (.ref (h 0)), some (.int x1), some (.int x2), none] 14 []) (x2 : Int32) (σ : zS) (hf : f_M_eRead_38 k14 x2 σ = some out) : V l d F 0 0 (MW d h σ) [some (.ref (h 0)), none, some (.int x2), none] 38 [] := by
  unfold f_M_eRead_38 at hf
  refine zr_aload_n 0 39 C (by decide +kernel) rfl rfl ?_
  refine zr_aload_n 0 40 C (by decide +kernel) rfl rfl ?_
  refine mg_0_37 (idx := 168) 43 C (by decide +kernel) rfl q_1028 ?_
  refine zr_iconst (v := 1) 1 44 C (by decide +kernel) rfl rfl ?_
  refine zr_icmp_ne (off := 13) 57 47 C (by decide +kernel) (by decide) rfl hf (fun hf => ?_) (fun hf => ?_)
  · refine zr_aload_n 0 58 C (by decide +kernel) rfl rfl ?_
    refine mg_0_38 (idx := 171) 61 C (by decide +kernel) rfl q_1029 ?_
    exact w_M_eRead_61 C T H14 _ _ _ hf
  · refine zr_ldc (v := 100000) (i := 203) 49 C (by decide +kernel) rfl q_1213 ?_
    refine zr_aload_n 0 50 C (by decide +kernel) rfl rfl ?_
    refine mg_0_38 (idx := 171) 53 C (by decide +kernel) rfl q_1029 ?_
    refine zr_iadd 54 C (by decide +kernel) rfl ?_
    refine zr_goto (off := 7) 61 C (by decide +kernel) (by decide) ?_
    exact w_M_eRead_61 C T H14 _ _ _ hf
def f_M_eRead_14b (k14 : Int32 → Int32 → zS → Option (Int32 × zS)) (x1 : Int32) (x2 : Int32) (σ : zS) : Option (Int32 × zS) :=
  zbd (f_M_next  σ) fun _ σ1 =>
  (if x1 = 0 then
  (if (σ1.1 37) = 59 then
  zbd (f_M_unwinds 1 σ1) fun _ σ10 =>
  (if (σ10.1 41) = 0 then
  some (1, σ10)
  else
  some (0, σ10))
  else
  (if (σ1.1 37) = 41 then
  zbd (f_M_unwinds 1 σ1) fun _ σ6 =>
  (if (σ6.1 41) = 0 then
  some (0, σ6)
  else
  zlt (zsg σ6 41 ((σ6.1 41) - 1)) fun σ7 =>
  zlt (zsg σ7 42 ((σ7.1 42) - 1)) fun σ8 =>
  zbd (f_M_unwinds 7 σ8) fun _ σ9 =>
  k14 x1 x2 σ9)
  else
  zbd (f_M_signOf  σ1) fun r3 σ2 =>
  (if r3 = (-1) then
  some (0, σ2)
  else
  zbd (f_M_between r3 σ2) fun r5 σ4 =>
  (if r5 = 0 then
  some (0, σ4)
  else
  (if 12 < r3 then
  f_M_eRead_262 k14 1 0 σ4
  else
  f_M_eRead_262 k14 1 1 σ4)))))
  else
  (if (σ1.1 37) = 1 then
  f_M_eRead_38 k14 x2 σ1
  else
  (if (σ1.1 37) = 2 then
  f_M_eRead_38 k14 x2 σ1
  else
  (if (σ1.1 37) = 6 then
  (if x2 = 0 then
  f_M_eRead_99 k14 x1 σ1
  else
  zbd (f_M_opensOne 13 σ1) fun r12 σ11 =>
  (if r12 = 0 then
  some (0, σ11)
  else
  k14 x1 x2 σ11))
  else
  f_M_eRead_99 k14 x1 σ1))))
set_option maxRecDepth 4000 in
theorem w_M_eRead_14b {l : Launch} {d : zD} {F : zF} {h : Nat → Nat} {out : Int32 × zS} {k14 : Int32 → Int32 → zS → Option (Int32 × zS)} (C : zOk d F RX11 cX11_eRead 4 3 69) (T : zRt d F (some .boolean) (some (.int out.1)) (MW d h out.2)) (H14 : ∀ (x1 : Int32) (x2 : Int32) (σ : zS), k14 x1 x2 σ = some out → V l d F 0 0 (MW d h σ) [some (.ref (h 0)), some (.int x1), some (.int x2), none] 14 []) (x1 : Int32) (x2 : Int32) (σ : zS) (hf : f_M_eRead_14b k14 x1 x2 σ = some out) : V l d F 0 0 (MW d h σ) [some (.ref (h 0)), some (.int x1), some (.int x2), none] 14 [] := by
  unfold f_M_eRead_14b at hf
  refine zr_aload_n 0 15 C (by decide +kernel) rfl rfl ?_
  refine k_M_next (idx := 200) 18 C (by decide +kernel) rfl q_1201 (zb2 rfl rfl) (Nat.le_of_ble_eq_true rfl) hf (fun _ σ1 hf => ?_)
  refine zr_iload_n 1 19 C (by decide +kernel) rfl rfl ?_
  refine zr_if_eq (off := 131) 150 22 C (by decide +kernel) (by decide) rfl hf (fun hf => ?_) (fun hf => ?_)
  · refine zr_aload_n 0 151 C (by decide +kernel) rfl rfl ?_
    refine mg_0_37 (idx := 168) 154 C (by decide +kernel) rfl q_1028 ?_
    refine zr_bipush (v := 59) 59 156 C (by decide +kernel) rfl rfl ?_
    refine zr_icmp_ne (off := 21) 177 159 C (by decide +kernel) (by decide) rfl hf (fun hf => ?_) (fun hf => ?_)
    · refine zr_aload_n 0 178 C (by decide +kernel) rfl rfl ?_
      refine mg_0_37 (idx := 168) 181 C (by decide +kernel) rfl q_1028 ?_
      refine zr_bipush (v := 41) 41 183 C (by decide +kernel) rfl rfl ?_
      refine zr_icmp_ne (off := 46) 229 186 C (by decide +kernel) (by decide) rfl hf (fun hf => ?_) (fun hf => ?_)
      · refine zr_aload_n 0 230 C (by decide +kernel) rfl rfl ?_
        refine k_M_signOf (idx := 207) 233 C (by decide +kernel) rfl q_1233 (zb2 rfl rfl) (Nat.le_of_ble_eq_true rfl) hf (fun r3 σ2 hf => ?_)
        refine zr_istore_n 3 [some (.ref (h 0)), some (.int x1), some (.int x2), some (.int r3)] 234 C (by decide +kernel) rfl (by decide) rfl rfl ?_
        refine zr_iload_n 3 235 C (by decide +kernel) rfl rfl ?_
        refine zr_iconst (v := (-1)) (-1) 236 C (by decide +kernel) rfl rfl ?_
        refine zr_icmp_eq (off := 11) 247 239 C (by decide +kernel) (by decide) rfl hf (fun hf => ?_) (fun hf => ?_)
        · refine zr_iconst (v := 0) 0 248 C (by decide +kernel) rfl rfl ?_
          obtain rfl := Option.some.inj hf
          exact zr_zret C (by decide +kernel) rfl T
        · refine zr_aload_n 0 240 C (by decide +kernel) rfl rfl ?_
          refine zr_iload_n 3 241 C (by decide +kernel) rfl rfl ?_
          refine k_M_between (idx := 211) 244 C (by decide +kernel) rfl q_1237 (zb2 rfl rfl) (Nat.le_of_ble_eq_true rfl) hf (fun r5 σ4 hf => ?_)
          refine zr_if_ne (off := 5) 249 247 C (by decide +kernel) (by decide) rfl hf (fun hf => ?_) (fun hf => ?_)
          · refine zr_iconst (v := 1) 1 250 C (by decide +kernel) rfl rfl ?_
            refine zr_istore_n 1 [some (.ref (h 0)), some (.int 1), some (.int x2), some (.int r3)] 251 C (by decide +kernel) rfl (by decide) rfl rfl ?_
            refine zr_iload_n 3 252 C (by decide +kernel) rfl rfl ?_
            refine zr_bipush (v := 12) 12 254 C (by decide +kernel) rfl rfl ?_
            refine zr_icmp_gt (off := 7) 261 257 C (by decide +kernel) (by decide) rfl hf (fun hf => ?_) (fun hf => ?_)
            · refine zr_iconst (v := 0) 0 262 C (by decide +kernel) rfl rfl ?_
              refine zr_less (zA (zA (zN (zN zE)))) ?_
              exact w_M_eRead_262 C T H14 _ _ _ hf
            · refine zr_iconst (v := 1) 1 258 C (by decide +kernel) rfl rfl ?_
              refine zr_goto (off := 4) 262 C (by decide +kernel) (by decide) ?_
              refine zr_less (zA (zA (zN (zN zE)))) ?_
              exact w_M_eRead_262 C T H14 _ _ _ hf
          · refine zr_iconst (v := 0) 0 248 C (by decide +kernel) rfl rfl ?_
            obtain rfl := Option.some.inj hf
            exact zr_zret C (by decide +kernel) rfl T
      · refine zr_aload_n 0 187 C (by decide +kernel) rfl rfl ?_
        refine zr_iconst (v := 1) 1 188 C (by decide +kernel) rfl rfl ?_
        refine k_M_unwinds (idx := 197) 191 C (by decide +kernel) rfl q_1218 (zb2 rfl rfl) (Nat.le_of_ble_eq_true rfl) hf (fun _ σ6 hf => ?_)
        refine zr_aload_n 0 192 C (by decide +kernel) rfl rfl ?_
        refine mg_0_41 (idx := 181) 195 C (by decide +kernel) rfl q_1032 ?_
        refine zr_if_ne (off := 5) 200 198 C (by decide +kernel) (by decide) rfl hf (fun hf => ?_) (fun hf => ?_)
        · refine zr_aload_n 0 201 C (by decide +kernel) rfl rfl ?_
          refine zr_dup 202 C (by decide +kernel) rfl rfl ?_
          refine mg_0_41 (idx := 181) 205 C (by decide +kernel) rfl q_1032 ?_
          refine zr_iconst (v := 1) 1 206 C (by decide +kernel) rfl rfl ?_
          refine zr_isub 207 C (by decide +kernel) rfl ?_
          refine mp_0_41 (idx := 181) 210 C (by decide +kernel) rfl q_1032 hf (fun σ7 hf => ?_)
          refine zr_aload_n 0 211 C (by decide +kernel) rfl rfl ?_
          refine zr_dup 212 C (by decide +kernel) rfl rfl ?_
          refine mg_0_42 (idx := 187) 215 C (by decide +kernel) rfl q_1033 ?_
          refine zr_iconst (v := 1) 1 216 C (by decide +kernel) rfl rfl ?_
          refine zr_isub 217 C (by decide +kernel) rfl ?_
          refine mp_0_42 (idx := 187) 220 C (by decide +kernel) rfl q_1033 hf (fun σ8 hf => ?_)
          refine zr_aload_n 0 221 C (by decide +kernel) rfl rfl ?_
          refine zr_bipush (v := 7) 7 223 C (by decide +kernel) rfl rfl ?_
          refine k_M_unwinds (idx := 197) 226 C (by decide +kernel) rfl q_1218 (zb2 rfl rfl) (Nat.le_of_ble_eq_true rfl) hf (fun _ σ9 hf => ?_)
          refine zr_goto (off := -212) 14 C (by decide +kernel) (by decide) ?_
          exact H14 _ _ _ hf
        · refine zr_iconst (v := 0) 0 199 C (by decide +kernel) rfl rfl ?_
          obtain rfl := Option.some.inj hf
          exact zr_zret C (by decide +kernel) rfl T
    · refine zr_aload_n 0 160 C (by decide +kernel) rfl rfl ?_
      refine zr_iconst (v := 1) 1 161 C (by decide +kernel) rfl rfl ?_
      refine k_M_unwinds (idx := 197) 164 C (by decide +kernel) rfl q_1218 (zb2 rfl rfl) (Nat.le_of_ble_eq_true rfl) hf (fun _ σ10 hf => ?_)
      refine zr_aload_n 0 165 C (by decide +kernel) rfl rfl ?_
      refine mg_0_41 (idx := 181) 168 C (by decide +kernel) rfl q_1032 ?_
      refine zr_if_ne (off := 7) 175 171 C (by decide +kernel) (by decide) rfl hf (fun hf => ?_) (fun hf => ?_)
      · refine zr_iconst (v := 0) 0 176 C (by decide +kernel) rfl rfl ?_
        obtain rfl := Option.some.inj hf
        exact zr_zret C (by decide +kernel) rfl T
      · refine zr_iconst (v := 1) 1 172 C (by decide +kernel) rfl rfl ?_
        refine zr_goto (off := 4) 176 C (by decide +kernel) (by decide) ?_
        obtain rfl := Option.some.inj hf
        exact zr_zret C (by decide +kernel) rfl T
  · refine zr_aload_n 0 23 C (by decide +kernel) rfl rfl ?_
    refine mg_0_37 (idx := 168) 26 C (by decide +kernel) rfl q_1028 ?_
    refine zr_iconst (v := 1) 1 27 C (by decide +kernel) rfl rfl ?_
    refine zr_icmp_eq (off := 11) 38 30 C (by decide +kernel) (by decide) rfl hf (fun hf => ?_) (fun hf => ?_)
    · refine zr_less (zA (zN (zA (zN zE)))) ?_
      exact w_M_eRead_38 C T H14 _ _ hf
    · refine zr_aload_n 0 31 C (by decide +kernel) rfl rfl ?_
      refine mg_0_37 (idx := 168) 34 C (by decide +kernel) rfl q_1028 ?_
      refine zr_iconst (v := 2) 2 35 C (by decide +kernel) rfl rfl ?_
      refine zr_icmp_ne (off := 40) 75 38 C (by decide +kernel) (by decide) rfl hf (fun hf => ?_) (fun hf => ?_)
      · refine zr_aload_n 0 76 C (by decide +kernel) rfl rfl ?_
        refine mg_0_37 (idx := 168) 79 C (by decide +kernel) rfl q_1028 ?_
        refine zr_bipush (v := 6) 6 81 C (by decide +kernel) rfl rfl ?_
        refine zr_icmp_ne (off := 18) 99 84 C (by decide +kernel) (by decide) rfl hf (fun hf => ?_) (fun hf => ?_)
        · refine zr_less (zA (zA (zN (zN zE)))) ?_
          exact w_M_eRead_99 C T H14 _ _ hf
        · refine zr_iload_n 2 85 C (by decide +kernel) rfl rfl ?_
          refine zr_if_eq (off := 14) 99 88 C (by decide +kernel) (by decide) rfl hf (fun hf => ?_) (fun hf => ?_)
          · refine zr_less (zA (zA (zN (zN zE)))) ?_
            exact w_M_eRead_99 C T H14 _ _ hf
          · refine zr_aload_n 0 89 C (by decide +kernel) rfl rfl ?_
            refine zr_bipush (v := 13) 13 91 C (by decide +kernel) rfl rfl ?_
            refine k_M_opensOne (idx := 204) 94 C (by decide +kernel) rfl q_1225 (zb2 rfl rfl) (Nat.le_of_ble_eq_true rfl) hf (fun r12 σ11 hf => ?_)
            refine zr_if_ne (off := -80) 14 97 C (by decide +kernel) (by decide) rfl hf (fun hf => ?_) (fun hf => ?_)
            · exact H14 _ _ _ hf
            · refine zr_iconst (v := 0) 0 98 C (by decide +kernel) rfl rfl ?_
              obtain rfl := Option.some.inj hf
              exact zr_zret C (by decide +kernel) rfl T
      · refine zr_less (zA (zN (zA (zN zE)))) ?_
        exact w_M_eRead_38 C T H14 _ _ hf
def f_M_eRead_14  : Nat → Int32 → Int32 → zS → Option (Int32 × zS)
  | 0, _, _, _ => none
  | n + 1, x1, x2,  σ => f_M_eRead_14b (fun x1 x2 σ => f_M_eRead_14  n x1 x2 σ) x1 x2 σ
theorem w_M_eRead_14 {l : Launch} {d : zD} {F : zF} {h : Nat → Nat} {out : Int32 × zS}  (C : zOk d F RX11 cX11_eRead 4 3 69) (T : zRt d F (some .boolean) (some (.int out.1)) (MW d h out.2))  : ∀ (n : Nat) (x1 : Int32) (x2 : Int32) (σ : zS), f_M_eRead_14  n x1 x2 σ = some out → V l d F 0 0 (MW d h σ) [some (.ref (h 0)), some (.int x1), some (.int x2), none] 14 [] := by
  intro n
  induction n with
  | zero =>
    intro x1 x2 σ hf
    cases hf
  | succ n ih =>
    intro x1 x2 σ hf
    exact w_M_eRead_14b C T ih x1 x2 σ hf
def f_M_eRead  (σ : zS) : Option (Int32 × zS) :=
  zlt (zsg σ 41 0) fun σ1 =>
  zlt (zsg σ1 42 0) fun σ2 =>
  f_M_eRead_14 zfu 1 1 σ2
set_option maxRecDepth 4000 in
theorem m_M_eRead {l : Launch} {d : zD} {h : Nat → Nat} {out : Int32 × zS} {σ : zS}  (hf : f_M_eRead  σ = some out) : zM l yX11_eRead cX11_eRead 4 (some .boolean) 3 69 d [.ref (h 0)] (MW d h σ) (MW d h out.2) (some (.int out.1)) := by
  refine zM_of [some (.ref (h 0)), none, none, none] (by decide +kernel) rfl (Nat.le_of_ble_eq_true rfl) (fun F C T => ?_)
  unfold f_M_eRead at hf
  refine zr_aload_n 0 1 C (by decide +kernel) rfl rfl ?_
  refine zr_iconst (v := 0) 0 2 C (by decide +kernel) rfl rfl ?_
  refine mp_0_41 (idx := 181) 5 C (by decide +kernel) rfl q_1032 hf (fun σ1 hf => ?_)
  refine zr_aload_n 0 6 C (by decide +kernel) rfl rfl ?_
  refine zr_iconst (v := 0) 0 7 C (by decide +kernel) rfl rfl ?_
  refine mp_0_42 (idx := 187) 10 C (by decide +kernel) rfl q_1033 hf (fun σ2 hf => ?_)
  refine zr_iconst (v := 1) 1 11 C (by decide +kernel) rfl rfl ?_
  refine zr_istore_n 1 [some (.ref (h 0)), some (.int 1), none, none] 12 C (by decide +kernel) rfl (by decide) rfl rfl ?_
  refine zr_iconst (v := 1) 1 13 C (by decide +kernel) rfl rfl ?_
  refine zr_istore_n 2 [some (.ref (h 0)), some (.int 1), some (.int 1), none] 14 C (by decide +kernel) rfl (by decide) rfl rfl ?_
  exact w_M_eRead_14 C T zfu _ _ _ hf
theorem y_M_eRead : zY yX11_eRead cX11_eRead 4 (some .boolean) 0 := ⟨q_1212, q_90, by decide +kernel, by decide +kernel, by decide +kernel⟩
theorem k_M_eRead {l : Launch} {d : zD} {F : zF} {h : Nat → Nat} {σ : zS} {lv : List (Option Value)} {pc : Nat} {own : String} {cc : ByteArray} {nL fr lo idx : Nat} {rest : List Value} {β : Type} {kf : Int32 → zS → Option β} {o2 : β}  (pc' : Nat) (C : zOk d F own cc nL fr lo) (hd : decode cc pc = .ok (.invokevirtual idx, 3)) (hp : pc + 3 = pc') (hq : Cond.methodLink own idx yX11_eRead ∈ zW) (hm : 3 + 1 ≤ fr ∧ 8 + (4 + 11) + 69 ≤ lo) (hr : (rest.map fun v => v.category).sum ≤ 8) (hf : zbd (f_M_eRead  σ) kf = some o2) (K : ∀ (r : Int32) (σ' : zS), kf r σ' = some o2 → V l d F 0 0 (MW d h σ') lv pc' (.int r :: rest)) : V l d F 0 0 (MW d h σ) lv pc (.ref (h 0) :: rest) := by
  obtain ⟨q, h1, h2⟩ := zbd_some hf
  exact zr_callV y_M_eRead ⟨q_1211, q_40⟩ 0 rfl rfl (As := []) (m_M_eRead h1) rfl rfl pc' C hd hp hq hm hr (K _ _ h2)
end
section
/-! StepsBeyondModel.text()I -/
def f_M_text_122  (x1 : Int32) (σ : zS) : Option (Int32 × zS) :=
  zin ((4 * (σ.1 23)) + 2) 24 (zlt (zsa σ 16 ((4 * (σ.1 23)) + 2) (σ.1 43)) fun σ1 =>
  zlt (zsg σ1 20 0) fun σ2 =>
  (if x1 = 0 then
  some ((-100) - (σ2.1 36), σ2)
  else
  zlt (zsg σ2 23 ((σ2.1 23) + 1)) fun σ3 =>
  some ((σ3.1 23) - 1, σ3)))
set_option maxRecDepth 4000 in
theorem w_M_text_122 {l : Launch} {d : zD} {F : zF} {h : Nat → Nat} {out : Int32 × zS}  (C : zOk d F RX11 cX11_text 3 4 92) (T : zRt d F (some .int) (some (.int out.1)) (MW d h out.2))  (x1 : Int32) (σ : zS) (hf : f_M_text_122  x1 σ = some out) : V l d F 0 0 (MW d h σ) [some (.ref (h 0)), some (.int x1), none] 122 [] := by
  unfold f_M_text_122 at hf
  refine zr_aload_n 0 123 C (by decide +kernel) rfl rfl ?_
  refine mg_0_22 (idx := 55) 126 C (by decide +kernel) rfl q_1013 ?_
  refine zr_iconst (v := 4) 4 127 C (by decide +kernel) rfl rfl ?_
  refine zr_aload_n 0 128 C (by decide +kernel) rfl rfl ?_
  refine mg_0_23 (idx := 58) 131 C (by decide +kernel) rfl q_1014 ?_
  refine zr_imul 132 C (by decide +kernel) rfl ?_
  refine zr_iconst (v := 2) 2 133 C (by decide +kernel) rfl rfl ?_
  refine zr_iadd 134 C (by decide +kernel) rfl ?_
  refine zr_aload_n 0 135 C (by decide +kernel) rfl rfl ?_
  refine mg_0_43 (idx := 178) 138 C (by decide +kernel) rfl q_1034 ?_
  refine ms_16 139 C (by decide +kernel) rfl hf (fun σ1 hf => ?_)
  refine zr_aload_n 0 140 C (by decide +kernel) rfl rfl ?_
  refine zr_iconst (v := 0) 0 141 C (by decide +kernel) rfl rfl ?_
  refine mp_0_20 (idx := 157) 144 C (by decide +kernel) rfl q_1011 hf (fun σ2 hf => ?_)
  refine zr_iload_n 1 145 C (by decide +kernel) rfl rfl ?_
  refine zr_if_ne (off := 11) 156 148 C (by decide +kernel) (by decide) rfl hf (fun hf => ?_) (fun hf => ?_)
  · refine zr_aload_n 0 157 C (by decide +kernel) rfl rfl ?_
    refine zr_dup 158 C (by decide +kernel) rfl rfl ?_
    refine mg_0_23 (idx := 58) 161 C (by decide +kernel) rfl q_1014 ?_
    refine zr_iconst (v := 1) 1 162 C (by decide +kernel) rfl rfl ?_
    refine zr_iadd 163 C (by decide +kernel) rfl ?_
    refine mp_0_23 (idx := 58) 166 C (by decide +kernel) rfl q_1014 hf (fun σ3 hf => ?_)
    refine zr_aload_n 0 167 C (by decide +kernel) rfl rfl ?_
    refine mg_0_23 (idx := 58) 170 C (by decide +kernel) rfl q_1014 ?_
    refine zr_iconst (v := 1) 1 171 C (by decide +kernel) rfl rfl ?_
    refine zr_isub 172 C (by decide +kernel) rfl ?_
    obtain rfl := Option.some.inj hf
    exact zr_iret C (by decide +kernel) T
  · refine zr_bipush (v := (-100)) (-100) 150 C (by decide +kernel) rfl rfl ?_
    refine zr_aload_n 0 151 C (by decide +kernel) rfl rfl ?_
    refine mg_0_36 (idx := 165) 154 C (by decide +kernel) rfl q_1027 ?_
    refine zr_isub 155 C (by decide +kernel) rfl ?_
    obtain rfl := Option.some.inj hf
    exact zr_iret C (by decide +kernel) T
def f_M_text_121  (y0 : Int32) (σ : zS) : Option (Int32 × zS) :=
  f_M_text_122 y0 σ
set_option maxRecDepth 4000 in
theorem w_M_text_121 {l : Launch} {d : zD} {F : zF} {h : Nat → Nat} {out : Int32 × zS}  (C : zOk d F RX11 cX11_text 3 4 92) (T : zRt d F (some .int) (some (.int out.1)) (MW d h out.2))  (y0 : Int32) (σ : zS) (hf : f_M_text_121  y0 σ = some out) : V l d F 0 0 (MW d h σ) [some (.ref (h 0)), none, none] 121 [.int y0] := by
  unfold f_M_text_121 at hf
  refine zr_istore_n 1 [some (.ref (h 0)), some (.int y0), none] 122 C (by decide +kernel) rfl (by decide) rfl rfl ?_
  exact w_M_text_122 C T _ _ hf
def f_M_text_101  (x1 : Int32) (σ : zS) : Option (Int32 × zS) :=
  (if x1 = 0 then
  f_M_text_122 x1 σ
  else
  zbd (f_M_next  σ) fun _ σ1 =>
  (if (σ1.1 37) = 0 then
  f_M_text_121 1 σ1
  else
  f_M_text_121 0 σ1))
set_option maxRecDepth 4000 in
theorem w_M_text_101 {l : Launch} {d : zD} {F : zF} {h : Nat → Nat} {out : Int32 × zS}  (C : zOk d F RX11 cX11_text 3 4 92) (T : zRt d F (some .int) (some (.int out.1)) (MW d h out.2))  (x1 : Int32) (σ : zS) (hf : f_M_text_101  x1 σ = some out) : V l d F 0 0 (MW d h σ) [some (.ref (h 0)), some (.int x1), none] 101 [] := by
  unfold f_M_text_101 at hf
  refine zr_iload_n 1 102 C (by decide +kernel) rfl rfl ?_
  refine zr_if_eq (off := 20) 122 105 C (by decide +kernel) (by decide) rfl hf (fun hf => ?_) (fun hf => ?_)
  · exact w_M_text_122 C T _ _ hf
  · refine zr_aload_n 0 106 C (by decide +kernel) rfl rfl ?_
    refine k_M_next (idx := 200) 109 C (by decide +kernel) rfl q_1201 (zb2 rfl rfl) (Nat.le_of_ble_eq_true rfl) hf (fun _ σ1 hf => ?_)
    refine zr_aload_n 0 110 C (by decide +kernel) rfl rfl ?_
    refine mg_0_37 (idx := 168) 113 C (by decide +kernel) rfl q_1028 ?_
    refine zr_if_ne (off := 7) 120 116 C (by decide +kernel) (by decide) rfl hf (fun hf => ?_) (fun hf => ?_)
    · refine zr_iconst (v := 0) 0 121 C (by decide +kernel) rfl rfl ?_
      refine zr_less (zA (zN (zN zE))) ?_
      exact w_M_text_121 C T _ _ hf
    · refine zr_iconst (v := 1) 1 117 C (by decide +kernel) rfl rfl ?_
      refine zr_goto (off := 4) 121 C (by decide +kernel) (by decide) ?_
      refine zr_less (zA (zN (zN zE))) ?_
      exact w_M_text_121 C T _ _ hf
def f_M_text_94 (k26 : Int32 → Int32 → zS → Option (Int32 × zS)) (x2 : Int32) (y0 : Int32) (σ : zS) : Option (Int32 × zS) :=
  k26 y0 (x2 + 1) σ
set_option maxRecDepth 4000 in
theorem w_M_text_94 {l : Launch} {d : zD} {F : zF} {h : Nat → Nat} {out : Int32 × zS} {k26 : Int32 → Int32 → zS → Option (Int32 × zS)} (C : zOk d F RX11 cX11_text 3 4 92) (T : zRt d F (some .int) (some (.int out.1)) (MW d h out.2)) (H26 : ∀ (x1 : Int32) (x2 : Int32) (σ : zS), k26 x1 x2 σ = some out → V l d F 0 0 (MW d h σ) [some (.ref (h 0)), some (.int x1), some (.int x2)] 26 []) (x2 : Int32) (y0 : Int32) (σ : zS) (hf : f_M_text_94 k26 x2 y0 σ = some out) : V l d F 0 0 (MW d h σ) [some (.ref (h 0)), none, some (.int x2)] 94 [.int y0] := by
  unfold f_M_text_94 at hf
  refine zr_istore_n 1 [some (.ref (h 0)), some (.int y0), some (.int x2)] 95 C (by decide +kernel) rfl (by decide) rfl rfl ?_
  refine zr_iinc (j := 1) 2 [some (.ref (h 0)), some (.int y0), some (.int (x2 + 1))] 98 C (by decide +kernel) rfl rfl rfl (by decide) rfl rfl ?_
  refine zr_goto (off := -72) 26 C (by decide +kernel) (by decide) ?_
  exact H26 _ _ _ hf
def f_M_text_93 (k26 : Int32 → Int32 → zS → Option (Int32 × zS)) (x2 : Int32) (σ : zS) : Option (Int32 × zS) :=
  f_M_text_94 k26 x2 0 σ
set_option maxRecDepth 4000 in
theorem w_M_text_93 {l : Launch} {d : zD} {F : zF} {h : Nat → Nat} {out : Int32 × zS} {k26 : Int32 → Int32 → zS → Option (Int32 × zS)} (C : zOk d F RX11 cX11_text 3 4 92) (T : zRt d F (some .int) (some (.int out.1)) (MW d h out.2)) (H26 : ∀ (x1 : Int32) (x2 : Int32) (σ : zS), k26 x1 x2 σ = some out → V l d F 0 0 (MW d h σ) [some (.ref (h 0)), some (.int x1), some (.int x2)] 26 []) (x2 : Int32) (σ : zS) (hf : f_M_text_93 k26 x2 σ = some out) : V l d F 0 0 (MW d h σ) [some (.ref (h 0)), none, some (.int x2)] 93 [] := by
  unfold f_M_text_93 at hf
  refine zr_iconst (v := 0) 0 94 C (by decide +kernel) rfl rfl ?_
  exact w_M_text_94 C T H26 _ _ _ hf
def f_M_text_60 (k26 : Int32 → Int32 → zS → Option (Int32 × zS)) (x2 : Int32) (y0 : Int32) (σ : zS) : Option (Int32 × zS) :=
  zin ((4 * (σ.1 23)) + x2) 24 (zlt (zsa σ 16 ((4 * (σ.1 23)) + x2) (σ.1 43)) fun σ1 =>
  (if y0 = 0 then
  f_M_text_93 k26 x2 σ1
  else
  zbd (f_M_eRead  σ1) fun r3 σ2 =>
  (if r3 = 0 then
  f_M_text_93 k26 x2 σ2
  else
  f_M_text_94 k26 x2 1 σ2)))
set_option maxRecDepth 4000 in
theorem w_M_text_60 {l : Launch} {d : zD} {F : zF} {h : Nat → Nat} {out : Int32 × zS} {k26 : Int32 → Int32 → zS → Option (Int32 × zS)} (C : zOk d F RX11 cX11_text 3 4 92) (T : zRt d F (some .int) (some (.int out.1)) (MW d h out.2)) (H26 : ∀ (x1 : Int32) (x2 : Int32) (σ : zS), k26 x1 x2 σ = some out → V l d F 0 0 (MW d h σ) [some (.ref (h 0)), some (.int x1), some (.int x2)] 26 []) (x2 : Int32) (y0 : Int32) (σ : zS) (hf : f_M_text_60 k26 x2 y0 σ = some out) : V l d F 0 0 (MW d h σ) [some (.ref (h 0)), none, some (.int x2)] 60 [.int y0] := by
  unfold f_M_text_60 at hf
  refine zr_istore_n 1 [some (.ref (h 0)), some (.int y0), some (.int x2)] 61 C (by decide +kernel) rfl (by decide) rfl rfl ?_
  refine zr_aload_n 0 62 C (by decide +kernel) rfl rfl ?_
  refine mg_0_22 (idx := 55) 65 C (by decide +kernel) rfl q_1013 ?_
  refine zr_iconst (v := 4) 4 66 C (by decide +kernel) rfl rfl ?_
  refine zr_aload_n 0 67 C (by decide +kernel) rfl rfl ?_
  refine mg_0_23 (idx := 58) 70 C (by decide +kernel) rfl q_1014 ?_
  refine zr_imul 71 C (by decide +kernel) rfl ?_
  refine zr_iload_n 2 72 C (by decide +kernel) rfl rfl ?_
  refine zr_iadd 73 C (by decide +kernel) rfl ?_
  refine zr_aload_n 0 74 C (by decide +kernel) rfl rfl ?_
  refine mg_0_43 (idx := 178) 77 C (by decide +kernel) rfl q_1034 ?_
  refine ms_16 78 C (by decide +kernel) rfl hf (fun σ1 hf => ?_)
  refine zr_iload_n 1 79 C (by decide +kernel) rfl rfl ?_
  refine zr_if_eq (off := 14) 93 82 C (by decide +kernel) (by decide) rfl hf (fun hf => ?_) (fun hf => ?_)
  · refine zr_less (zA (zN (zA zE))) ?_
    exact w_M_text_93 C T H26 _ _ hf
  · refine zr_aload_n 0 83 C (by decide +kernel) rfl rfl ?_
    refine k_M_eRead (idx := 214) 86 C (by decide +kernel) rfl q_1209 (zb2 rfl rfl) (Nat.le_of_ble_eq_true rfl) hf (fun r3 σ2 hf => ?_)
    refine zr_if_eq (off := 7) 93 89 C (by decide +kernel) (by decide) rfl hf (fun hf => ?_) (fun hf => ?_)
    · refine zr_less (zA (zN (zA zE))) ?_
      exact w_M_text_93 C T H26 _ _ hf
    · refine zr_iconst (v := 1) 1 90 C (by decide +kernel) rfl rfl ?_
      refine zr_goto (off := 4) 94 C (by decide +kernel) (by decide) ?_
      refine zr_less (zA (zN (zA zE))) ?_
      exact w_M_text_94 C T H26 _ _ _ hf
def f_M_text_59 (k26 : Int32 → Int32 → zS → Option (Int32 × zS)) (x2 : Int32) (σ : zS) : Option (Int32 × zS) :=
  f_M_text_60 k26 x2 0 σ
set_option maxRecDepth 4000 in
theorem w_M_text_59 {l : Launch} {d : zD} {F : zF} {h : Nat → Nat} {out : Int32 × zS} {k26 : Int32 → Int32 → zS → Option (Int32 × zS)} (C : zOk d F RX11 cX11_text 3 4 92) (T : zRt d F (some .int) (some (.int out.1)) (MW d h out.2)) (H26 : ∀ (x1 : Int32) (x2 : Int32) (σ : zS), k26 x1 x2 σ = some out → V l d F 0 0 (MW d h σ) [some (.ref (h 0)), some (.int x1), some (.int x2)] 26 []) (x2 : Int32) (σ : zS) (hf : f_M_text_59 k26 x2 σ = some out) : V l d F 0 0 (MW d h σ) [some (.ref (h 0)), none, some (.int x2)] 59 [] := by
  unfold f_M_text_59 at hf
  refine zr_iconst (v := 0) 0 60 C (by decide +kernel) rfl rfl ?_
  exact w_M_text_60 C T H26 _ _ _ hf
def f_M_text_26b (k26 : Int32 → Int32 → zS → Option (Int32 × zS)) (x1 : Int32) (x2 : Int32) (σ : zS) : Option (Int32 × zS) :=
  (if 2 ≤ x2 then
  f_M_text_101 x1 σ
  else
  (if x1 = 0 then
  f_M_text_101 x1 σ
  else
  zbd (f_M_next  σ) fun _ σ1 =>
  (if (σ1.1 37) = 3 then
  (if (σ1.1 38) = x2 then
  f_M_text_60 k26 x2 1 σ1
  else
  f_M_text_59 k26 x2 σ1)
  else
  f_M_text_59 k26 x2 σ1)))
set_option maxRecDepth 4000 in
theorem w_M_text_26b {l : Launch} {d : zD} {F : zF} {h : Nat → Nat} {out : Int32 × zS} {k26 : Int32 → Int32 → zS → Option (Int32 × zS)} (C : zOk d F RX11 cX11_text 3 4 92) (T : zRt d F (some .int) (some (.int out.1)) (MW d h out.2)) (H26 : ∀ (x1 : Int32) (x2 : Int32) (σ : zS), k26 x1 x2 σ = some out → V l d F 0 0 (MW d h σ) [some (.ref (h 0)), some (.int x1), some (.int x2)] 26 []) (x1 : Int32) (x2 : Int32) (σ : zS) (hf : f_M_text_26b k26 x1 x2 σ = some out) : V l d F 0 0 (MW d h σ) [some (.ref (h 0)), some (.int x1), some (.int x2)] 26 [] := by
  unfold f_M_text_26b at hf
  refine zr_iload_n 2 27 C (by decide +kernel) rfl rfl ?_
  refine zr_iconst (v := 2) 2 28 C (by decide +kernel) rfl rfl ?_
  refine zr_icmp_ge (off := 73) 101 31 C (by decide +kernel) (by decide) rfl hf (fun hf => ?_) (fun hf => ?_)
  · refine zr_less (zA (zA (zN zE))) ?_
    exact w_M_text_101 C T _ _ hf
  · refine zr_iload_n 1 32 C (by decide +kernel) rfl rfl ?_
    refine zr_if_eq (off := 69) 101 35 C (by decide +kernel) (by decide) rfl hf (fun hf => ?_) (fun hf => ?_)
    · refine zr_less (zA (zA (zN zE))) ?_
      exact w_M_text_101 C T _ _ hf
    · refine zr_aload_n 0 36 C (by decide +kernel) rfl rfl ?_
      refine k_M_next (idx := 200) 39 C (by decide +kernel) rfl q_1201 (zb2 rfl rfl) (Nat.le_of_ble_eq_true rfl) hf (fun _ σ1 hf => ?_)
      refine zr_aload_n 0 40 C (by decide +kernel) rfl rfl ?_
      refine mg_0_37 (idx := 168) 43 C (by decide +kernel) rfl q_1028 ?_
      refine zr_iconst (v := 3) 3 44 C (by decide +kernel) rfl rfl ?_
      refine zr_icmp_ne (off := 15) 59 47 C (by decide +kernel) (by decide) rfl hf (fun hf => ?_) (fun hf => ?_)
      · refine zr_less (zA (zN (zA zE))) ?_
        exact w_M_text_59 C T H26 _ _ hf
      · refine zr_aload_n 0 48 C (by decide +kernel) rfl rfl ?_
        refine mg_0_38 (idx := 171) 51 C (by decide +kernel) rfl q_1029 ?_
        refine zr_iload_n 2 52 C (by decide +kernel) rfl rfl ?_
        refine zr_icmp_ne (off := 7) 59 55 C (by decide +kernel) (by decide) rfl hf (fun hf => ?_) (fun hf => ?_)
        · refine zr_less (zA (zN (zA zE))) ?_
          exact w_M_text_59 C T H26 _ _ hf
        · refine zr_iconst (v := 1) 1 56 C (by decide +kernel) rfl rfl ?_
          refine zr_goto (off := 4) 60 C (by decide +kernel) (by decide) ?_
          refine zr_less (zA (zN (zA zE))) ?_
          exact w_M_text_60 C T H26 _ _ _ hf
def f_M_text_26  : Nat → Int32 → Int32 → zS → Option (Int32 × zS)
  | 0, _, _, _ => none
  | n + 1, x1, x2,  σ => f_M_text_26b (fun x1 x2 σ => f_M_text_26  n x1 x2 σ) x1 x2 σ
theorem w_M_text_26 {l : Launch} {d : zD} {F : zF} {h : Nat → Nat} {out : Int32 × zS}  (C : zOk d F RX11 cX11_text 3 4 92) (T : zRt d F (some .int) (some (.int out.1)) (MW d h out.2))  : ∀ (n : Nat) (x1 : Int32) (x2 : Int32) (σ : zS), f_M_text_26  n x1 x2 σ = some out → V l d F 0 0 (MW d h σ) [some (.ref (h 0)), some (.int x1), some (.int x2)] 26 [] := by
  intro n
  induction n with
  | zero =>
    intro x1 x2 σ hf
    cases hf
  | succ n ih =>
    intro x1 x2 σ hf
    exact w_M_text_26b C T ih x1 x2 σ hf
def f_M_text  (σ : zS) : Option (Int32 × zS) :=
  (if (σ.1 23) = 6 then
  some (-4, σ)
  else
  zlt (zsg σ 35 0) fun σ1 =>
  zlt (zsg σ1 43 0) fun σ2 =>
  f_M_text_26 zfu 1 0 σ2)
set_option maxRecDepth 4000 in
theorem m_M_text {l : Launch} {d : zD} {h : Nat → Nat} {out : Int32 × zS} {σ : zS}  (hf : f_M_text  σ = some out) : zM l yX11_text cX11_text 3 (some .int) 4 92 d [.ref (h 0)] (MW d h σ) (MW d h out.2) (some (.int out.1)) := by
  refine zM_of [some (.ref (h 0)), none, none] (by decide +kernel) rfl (Nat.le_of_ble_eq_true rfl) (fun F C T => ?_)
  unfold f_M_text at hf
  refine zr_aload_n 0 1 C (by decide +kernel) rfl rfl ?_
  refine mg_0_23 (idx := 58) 4 C (by decide +kernel) rfl q_1014 ?_
  refine zr_bipush (v := 6) 6 6 C (by decide +kernel) rfl rfl ?_
  refine zr_icmp_ne (off := 6) 12 9 C (by decide +kernel) (by decide) rfl hf (fun hf => ?_) (fun hf => ?_)
  · refine zr_aload_n 0 13 C (by decide +kernel) rfl rfl ?_
    refine zr_iconst (v := 0) 0 14 C (by decide +kernel) rfl rfl ?_
    refine mp_0_35 (idx := 162) 17 C (by decide +kernel) rfl q_1026 hf (fun σ1 hf => ?_)
    refine zr_aload_n 0 18 C (by decide +kernel) rfl rfl ?_
    refine zr_iconst (v := 0) 0 19 C (by decide +kernel) rfl rfl ?_
    refine mp_0_43 (idx := 178) 22 C (by decide +kernel) rfl q_1034 hf (fun σ2 hf => ?_)
    refine zr_iconst (v := 1) 1 23 C (by decide +kernel) rfl rfl ?_
    refine zr_istore_n 1 [some (.ref (h 0)), some (.int 1), none] 24 C (by decide +kernel) rfl (by decide) rfl rfl ?_
    refine zr_iconst (v := 0) 0 25 C (by decide +kernel) rfl rfl ?_
    refine zr_istore_n 2 [some (.ref (h 0)), some (.int 1), some (.int 0)] 26 C (by decide +kernel) rfl (by decide) rfl rfl ?_
    exact w_M_text_26 C T zfu _ _ _ hf
  · refine zr_bipush (v := (-4)) (-4) 11 C (by decide +kernel) rfl rfl ?_
    obtain rfl := Option.some.inj hf
    exact zr_iret C (by decide +kernel) T
theorem y_M_text : zY yX11_text cX11_text 3 (some .int) 0 := ⟨q_1200, q_90, by decide +kernel, by decide +kernel, by decide +kernel⟩
theorem k_M_text {l : Launch} {d : zD} {F : zF} {h : Nat → Nat} {σ : zS} {lv : List (Option Value)} {pc : Nat} {own : String} {cc : ByteArray} {nL fr lo idx : Nat} {rest : List Value} {β : Type} {kf : Int32 → zS → Option β} {o2 : β}  (pc' : Nat) (C : zOk d F own cc nL fr lo) (hd : decode cc pc = .ok (.invokevirtual idx, 3)) (hp : pc + 3 = pc') (hq : Cond.methodLink own idx yX11_text ∈ zW) (hm : 4 + 1 ≤ fr ∧ 8 + (3 + 11) + 92 ≤ lo) (hr : (rest.map fun v => v.category).sum ≤ 8) (hf : zbd (f_M_text  σ) kf = some o2) (K : ∀ (r : Int32) (σ' : zS), kf r σ' = some o2 → V l d F 0 0 (MW d h σ') lv pc' (.int r :: rest)) : V l d F 0 0 (MW d h σ) lv pc (.ref (h 0) :: rest) := by
  obtain ⟨q, h1, h2⟩ := zbd_some hf
  exact zr_callV y_M_text ⟨q_1198, q_1199⟩ 0 rfl rfl (As := []) (m_M_text h1) rfl rfl pc' C hd hp hq hm hr (K _ _ h2)
/-! StepsBeyondModel.two(III)I -/
def f_M_two_52   (σ : zS) : Option (Int32 × zS) :=
  some (1, σ)
set_option maxRecDepth 4000 in
theorem w_M_two_52 {l : Launch} {d : zD} {F : zF} {h : Nat → Nat} {out : Int32 × zS}  (C : zOk d F RX11 cX11_two 3 0 0) (T : zRt d F (some .int) (some (.int out.1)) (MW d h out.2))   (σ : zS) (hf : f_M_two_52   σ = some out) : V l d F 0 0 (MW d h σ) [none, none, none] 52 [] := by
  unfold f_M_two_52 at hf
  refine zr_iconst (v := 1) 1 53 C (by decide +kernel) rfl rfl ?_
  refine zr_goto (off := 4) 57 C (by decide +kernel) (by decide) ?_
  obtain rfl := Option.some.inj hf
  exact zr_iret C (by decide +kernel) T
def f_M_two (p0 : Int32) (p1 : Int32) (p2 : Int32) (σ : zS) : Option (Int32 × zS) :=
  (if p0 = 11 then
  (if p1 = 0 then
  (if p2 = 0 then
  some (0, σ)
  else
  f_M_two_52 σ)
  else
  f_M_two_52 σ)
  else
  (if p0 = 12 then
  (if p1 = 0 then
  some (0, σ)
  else
  (if p2 = 0 then
  some (0, σ)
  else
  some (1, σ)))
  else
  (if p0 = 14 then
  (if p2 ≤ p1 then
  some (0, σ)
  else
  some (1, σ))
  else
  (if p0 = 15 then
  (if p1 = p2 then
  some (1, σ)
  else
  some (0, σ))
  else
  (if p0 = 16 then
  some (p1 + p2, σ)
  else
  (if p0 = 17 then
  some (p1 - p2, σ)
  else
  some (p1 * p2, σ)))))))
set_option maxRecDepth 4000 in
theorem m_M_two {l : Launch} {d : zD} {h : Nat → Nat} {out : Int32 × zS} {σ : zS} {p0 : Int32} {p1 : Int32} {p2 : Int32} (hf : f_M_two p0 p1 p2 σ = some out) : zM l yX11_two cX11_two 3 (some .int) 0 0 d [.int p0, .int p1, .int p2] (MW d h σ) (MW d h out.2) (some (.int out.1)) := by
  refine zM_of [some (.int p0), some (.int p1), some (.int p2)] (by decide +kernel) rfl (Nat.le_of_ble_eq_true rfl) (fun F C T => ?_)
  unfold f_M_two at hf
  refine zr_iload_n 0 1 C (by decide +kernel) rfl rfl ?_
  refine zr_tcase (dflt := 101) (lw := 11) (hi := 17) (offs := #[43, 57, 101, 71, 82, 93, 97]) (len := 43) (off := 43) (j := 0) 11 44 C (by decide +kernel) (by decide) (by decide) rfl (by decide) hf (fun hf => ?_) (fun hn0 hf => ?_)
  · refine zr_iload_n 1 45 C (by decide +kernel) rfl rfl ?_
    refine zr_if_ne (off := 7) 52 48 C (by decide +kernel) (by decide) rfl hf (fun hf => ?_) (fun hf => ?_)
    · refine zr_less (zN (zN (zN zE))) ?_
      exact w_M_two_52 C T _ hf
    · refine zr_iload_n 2 49 C (by decide +kernel) rfl rfl ?_
      refine zr_if_eq (off := 7) 56 52 C (by decide +kernel) (by decide) rfl hf (fun hf => ?_) (fun hf => ?_)
      · refine zr_iconst (v := 0) 0 57 C (by decide +kernel) rfl rfl ?_
        obtain rfl := Option.some.inj hf
        exact zr_iret C (by decide +kernel) T
      · refine zr_less (zN (zN (zN zE))) ?_
        exact w_M_two_52 C T _ hf
  refine zr_tcase (dflt := 101) (lw := 11) (hi := 17) (offs := #[43, 57, 101, 71, 82, 93, 97]) (len := 43) (off := 57) (j := 1) 12 58 C (by decide +kernel) (by decide) (by decide) rfl (by decide) hf (fun hf => ?_) (fun hn1 hf => ?_)
  · refine zr_iload_n 1 59 C (by decide +kernel) rfl rfl ?_
    refine zr_if_eq (off := 11) 70 62 C (by decide +kernel) (by decide) rfl hf (fun hf => ?_) (fun hf => ?_)
    · refine zr_iconst (v := 0) 0 71 C (by decide +kernel) rfl rfl ?_
      obtain rfl := Option.some.inj hf
      exact zr_iret C (by decide +kernel) T
    · refine zr_iload_n 2 63 C (by decide +kernel) rfl rfl ?_
      refine zr_if_eq (off := 7) 70 66 C (by decide +kernel) (by decide) rfl hf (fun hf => ?_) (fun hf => ?_)
      · refine zr_iconst (v := 0) 0 71 C (by decide +kernel) rfl rfl ?_
        obtain rfl := Option.some.inj hf
        exact zr_iret C (by decide +kernel) T
      · refine zr_iconst (v := 1) 1 67 C (by decide +kernel) rfl rfl ?_
        refine zr_goto (off := 4) 71 C (by decide +kernel) (by decide) ?_
        obtain rfl := Option.some.inj hf
        exact zr_iret C (by decide +kernel) T
  refine zr_tcase (dflt := 101) (lw := 11) (hi := 17) (offs := #[43, 57, 101, 71, 82, 93, 97]) (len := 43) (off := 71) (j := 3) 14 72 C (by decide +kernel) (by decide) (by decide) rfl (by decide) hf (fun hf => ?_) (fun hn3 hf => ?_)
  · refine zr_iload_n 1 73 C (by decide +kernel) rfl rfl ?_
    refine zr_iload_n 2 74 C (by decide +kernel) rfl rfl ?_
    refine zr_icmp_ge (off := 7) 81 77 C (by decide +kernel) (by decide) rfl hf (fun hf => ?_) (fun hf => ?_)
    · refine zr_iconst (v := 0) 0 82 C (by decide +kernel) rfl rfl ?_
      obtain rfl := Option.some.inj hf
      exact zr_iret C (by decide +kernel) T
    · refine zr_iconst (v := 1) 1 78 C (by decide +kernel) rfl rfl ?_
      refine zr_goto (off := 4) 82 C (by decide +kernel) (by decide) ?_
      obtain rfl := Option.some.inj hf
      exact zr_iret C (by decide +kernel) T
  refine zr_tcase (dflt := 101) (lw := 11) (hi := 17) (offs := #[43, 57, 101, 71, 82, 93, 97]) (len := 43) (off := 82) (j := 4) 15 83 C (by decide +kernel) (by decide) (by decide) rfl (by decide) hf (fun hf => ?_) (fun hn4 hf => ?_)
  · refine zr_iload_n 1 84 C (by decide +kernel) rfl rfl ?_
    refine zr_iload_n 2 85 C (by decide +kernel) rfl rfl ?_
    refine zr_icmp_ne (off := 7) 92 88 C (by decide +kernel) (by decide) rfl hf (fun hf => ?_) (fun hf => ?_)
    · refine zr_iconst (v := 0) 0 93 C (by decide +kernel) rfl rfl ?_
      obtain rfl := Option.some.inj hf
      exact zr_iret C (by decide +kernel) T
    · refine zr_iconst (v := 1) 1 89 C (by decide +kernel) rfl rfl ?_
      refine zr_goto (off := 4) 93 C (by decide +kernel) (by decide) ?_
      obtain rfl := Option.some.inj hf
      exact zr_iret C (by decide +kernel) T
  refine zr_tcase (dflt := 101) (lw := 11) (hi := 17) (offs := #[43, 57, 101, 71, 82, 93, 97]) (len := 43) (off := 93) (j := 5) 16 94 C (by decide +kernel) (by decide) (by decide) rfl (by decide) hf (fun hf => ?_) (fun hn5 hf => ?_)
  · refine zr_iload_n 1 95 C (by decide +kernel) rfl rfl ?_
    refine zr_iload_n 2 96 C (by decide +kernel) rfl rfl ?_
    refine zr_iadd 97 C (by decide +kernel) rfl ?_
    obtain rfl := Option.some.inj hf
    exact zr_iret C (by decide +kernel) T
  refine zr_tcase (dflt := 101) (lw := 11) (hi := 17) (offs := #[43, 57, 101, 71, 82, 93, 97]) (len := 43) (off := 97) (j := 6) 17 98 C (by decide +kernel) (by decide) (by decide) rfl (by decide) hf (fun hf => ?_) (fun hn6 hf => ?_)
  · refine zr_iload_n 1 99 C (by decide +kernel) rfl rfl ?_
    refine zr_iload_n 2 100 C (by decide +kernel) rfl rfl ?_
    refine zr_isub 101 C (by decide +kernel) rfl ?_
    obtain rfl := Option.some.inj hf
    exact zr_iret C (by decide +kernel) T
  refine zr_tdflt (dflt := 101) (lw := 11) (hi := 17) (offs := #[43, 57, 101, 71, 82, 93, 97]) (len := 43) 102 C (by decide +kernel) (by decide) (by decide) (fun j hj hx => ?_) ?_
  · rcases (show j = 0 ∨ j = 1 ∨ j = 2 ∨ j = 3 ∨ j = 4 ∨ j = 5 ∨ j = 6 by have hj2 : j < 7 := hj; omega) with rfl | rfl | rfl | rfl | rfl | rfl | rfl
    · exact absurd (z_ti (c := 11) (by decide) hx) hn0
    · exact absurd (z_ti (c := 12) (by decide) hx) hn1
    · rfl
    · exact absurd (z_ti (c := 14) (by decide) hx) hn3
    · exact absurd (z_ti (c := 15) (by decide) hx) hn4
    · exact absurd (z_ti (c := 16) (by decide) hx) hn5
    · exact absurd (z_ti (c := 17) (by decide) hx) hn6
  refine zr_iload_n 1 103 C (by decide +kernel) rfl rfl ?_
  refine zr_iload_n 2 104 C (by decide +kernel) rfl rfl ?_
  refine zr_imul 105 C (by decide +kernel) rfl ?_
  obtain rfl := Option.some.inj hf
  exact zr_iret C (by decide +kernel) T
theorem y_M_two : zY yX11_two cX11_two 3 (some .int) 3 := ⟨q_1269, q_90, by decide +kernel, by decide +kernel, by decide +kernel⟩
theorem k_M_two {l : Launch} {d : zD} {F : zF} {h : Nat → Nat} {σ : zS} {lv : List (Option Value)} {pc : Nat} {own : String} {cc : ByteArray} {nL fr lo idx : Nat} {rest : List Value} {β : Type} {kf : Int32 → zS → Option β} {o2 : β} {p0 : Int32} {p1 : Int32} {p2 : Int32} (pc' : Nat) (C : zOk d F own cc nL fr lo) (hd : decode cc pc = .ok (.invokestatic idx, 3)) (hp : pc + 3 = pc') (hq : Cond.methodLink own idx yX11_two ∈ zW) (hm : 0 + 1 ≤ fr ∧ 8 + (3 + 11) + 0 ≤ lo) (hr : (rest.map fun v => v.category).sum ≤ 8) (hf : zbd (f_M_two p0 p1 p2 σ) kf = some o2) (K : ∀ (r : Int32) (σ' : zS), kf r σ' = some o2 → V l d F 0 0 (MW d h σ') lv pc' (.int r :: rest)) : V l d F 0 0 (MW d h σ) lv pc (.int p2 :: .int p1 :: .int p0 :: rest) := by
  obtain ⟨q, h1, h2⟩ := zbd_some hf
  exact zr_callS y_M_two q_1268 (As := [.int p0, .int p1, .int p2]) (m_M_two h1) rfl rfl pc' C hd hp hq hm hr (K _ _ h2)
/-! StepsBeyondModel.worth(I)I -/
def f_M_worth_191 (k16 : Int32 → Int32 → Int32 → zS → Option (Int32 × zS)) (x1 : Int32) (x2 : Int32) (x3 : Int32) (σ : zS) : Option (Int32 × zS) :=
  k16 x1 x2 (x3 + 1) σ
set_option maxRecDepth 4000 in
theorem w_M_worth_191 {l : Launch} {d : zD} {F : zF} {h : Nat → Nat} {out : Int32 × zS} {k16 : Int32 → Int32 → Int32 → zS → Option (Int32 × zS)} (C : zOk d F RX11 cX11_worth 5 1 22) (T : zRt d F (some .int) (some (.int out.1)) (MW d h out.2)) (H16 : ∀ (x1 : Int32) (x2 : Int32) (x3 : Int32) (σ : zS), k16 x1 x2 x3 σ = some out → V l d F 0 0 (MW d h σ) [some (.ref (h 0)), some (.int x1), some (.int x2), some (.int x3), none] 16 []) (x1 : Int32) (x2 : Int32) (x3 : Int32) (σ : zS) (hf : f_M_worth_191 k16 x1 x2 x3 σ = some out) : V l d F 0 0 (MW d h σ) [some (.ref (h 0)), some (.int x1), some (.int x2), some (.int x3), none] 191 [] := by
  unfold f_M_worth_191 at hf
  refine zr_iinc (j := 1) 3 [some (.ref (h 0)), some (.int x1), some (.int x2), some (.int (x3 + 1)), none] 194 C (by decide +kernel) rfl rfl rfl (by decide) rfl rfl ?_
  refine zr_goto (off := -178) 16 C (by decide +kernel) (by decide) ?_
  exact H16 _ _ _ _ hf
def f_M_worth_130 (k16 : Int32 → Int32 → Int32 → zS → Option (Int32 × zS)) (x1 : Int32) (x2 : Int32) (x3 : Int32) (y1 : Int32) (y2 : Int32) (σ : zS) : Option (Int32 × zS) :=
  zin y1 200 (zlt (zsa σ 24 y1 y2) fun σ1 =>
  f_M_worth_191 k16 x1 x2 x3 σ1)
set_option maxRecDepth 4000 in
theorem w_M_worth_130 {l : Launch} {d : zD} {F : zF} {h : Nat → Nat} {out : Int32 × zS} {k16 : Int32 → Int32 → Int32 → zS → Option (Int32 × zS)} (C : zOk d F RX11 cX11_worth 5 1 22) (T : zRt d F (some .int) (some (.int out.1)) (MW d h out.2)) (H16 : ∀ (x1 : Int32) (x2 : Int32) (x3 : Int32) (σ : zS), k16 x1 x2 x3 σ = some out → V l d F 0 0 (MW d h σ) [some (.ref (h 0)), some (.int x1), some (.int x2), some (.int x3), none] 16 []) (x1 : Int32) (x2 : Int32) (x3 : Int32) (y1 : Int32) (y2 : Int32) (σ : zS) (hf : f_M_worth_130 k16 x1 x2 x3 y1 y2 σ = some out) : V l d F 0 0 (MW d h σ) [some (.ref (h 0)), some (.int x1), some (.int x2), some (.int x3), none] 130 [.int y2, .int y1, .ref (h 24)] := by
  unfold f_M_worth_130 at hf
  refine ms_24 131 C (by decide +kernel) rfl hf (fun σ1 hf => ?_)
  refine zr_goto (off := 60) 191 C (by decide +kernel) (by decide) ?_
  exact w_M_worth_191 C T H16 _ _ _ _ hf
def f_M_worth_93 (k16 : Int32 → Int32 → Int32 → zS → Option (Int32 × zS)) (x1 : Int32) (x2 : Int32) (x3 : Int32) (y1 : Int32) (y2 : Int32) (σ : zS) : Option (Int32 × zS) :=
  zin y1 200 (zlt (zsa σ 24 y1 y2) fun σ1 =>
  f_M_worth_191 k16 x1 (x2 + 1) x3 σ1)
set_option maxRecDepth 4000 in
theorem w_M_worth_93 {l : Launch} {d : zD} {F : zF} {h : Nat → Nat} {out : Int32 × zS} {k16 : Int32 → Int32 → Int32 → zS → Option (Int32 × zS)} (C : zOk d F RX11 cX11_worth 5 1 22) (T : zRt d F (some .int) (some (.int out.1)) (MW d h out.2)) (H16 : ∀ (x1 : Int32) (x2 : Int32) (x3 : Int32) (σ : zS), k16 x1 x2 x3 σ = some out → V l d F 0 0 (MW d h σ) [some (.ref (h 0)), some (.int x1), some (.int x2), some (.int x3), none] 16 []) (x1 : Int32) (x2 : Int32) (x3 : Int32) (y1 : Int32) (y2 : Int32) (σ : zS) (hf : f_M_worth_93 k16 x1 x2 x3 y1 y2 σ = some out) : V l d F 0 0 (MW d h σ) [some (.ref (h 0)), some (.int x1), some (.int x2), some (.int x3), none] 93 [.int y2, .int y1, .ref (h 24)] := by
  unfold f_M_worth_93 at hf
  refine ms_24 94 C (by decide +kernel) rfl hf (fun σ1 hf => ?_)
  refine zr_iinc (j := 1) 2 [some (.ref (h 0)), some (.int x1), some (.int (x2 + 1)), some (.int x3), none] 97 C (by decide +kernel) rfl rfl rfl (by decide) rfl rfl ?_
  refine zr_goto (off := 94) 191 C (by decide +kernel) (by decide) ?_
  exact w_M_worth_191 C T H16 _ _ _ _ hf
def f_M_worth_66 (k16 : Int32 → Int32 → Int32 → zS → Option (Int32 × zS)) (x1 : Int32) (x2 : Int32) (x3 : Int32) (x4 : Int32) (σ : zS) : Option (Int32 × zS) :=
  (if 11 ≤ x4 then
  f_M_worth_93 k16 x1 x2 x3 x2 (x4 - 100000) σ
  else
  zin x4 6 (f_M_worth_93 k16 x1 x2 x3 x2 (σ.2 25 x4.toNatClampNeg) σ))
set_option maxRecDepth 4000 in
theorem w_M_worth_66 {l : Launch} {d : zD} {F : zF} {h : Nat → Nat} {out : Int32 × zS} {k16 : Int32 → Int32 → Int32 → zS → Option (Int32 × zS)} (C : zOk d F RX11 cX11_worth 5 1 22) (T : zRt d F (some .int) (some (.int out.1)) (MW d h out.2)) (H16 : ∀ (x1 : Int32) (x2 : Int32) (x3 : Int32) (σ : zS), k16 x1 x2 x3 σ = some out → V l d F 0 0 (MW d h σ) [some (.ref (h 0)), some (.int x1), some (.int x2), some (.int x3), none] 16 []) (x1 : Int32) (x2 : Int32) (x3 : Int32) (x4 : Int32) (σ : zS) (hf : f_M_worth_66 k16 x1 x2 x3 x4 σ = some out) : V l d F 0 0 (MW d h σ) [some (.ref (h 0)), some (.int x1), some (.int x2), some (.int x3), some (.int x4)] 66 [] := by
  unfold f_M_worth_66 at hf
  refine zr_aload_n 0 67 C (by decide +kernel) rfl rfl ?_
  refine mg_0_44 (idx := 106) 70 C (by decide +kernel) rfl q_1035 ?_
  refine zr_iload_n 2 71 C (by decide +kernel) rfl rfl ?_
  refine zr_iload 4 73 C (by decide +kernel) rfl rfl ?_
  refine zr_bipush (v := 11) 11 75 C (by decide +kernel) rfl rfl ?_
  refine zr_icmp_ge (off := 13) 88 78 C (by decide +kernel) (by decide) rfl hf (fun hf => ?_) (fun hf => ?_)
  · refine zr_iload 4 90 C (by decide +kernel) rfl rfl ?_
    refine zr_ldc (v := 100000) (i := 203) 92 C (by decide +kernel) rfl q_1213 ?_
    refine zr_isub 93 C (by decide +kernel) rfl ?_
    refine zr_less (zA (zA (zA (zA (zN zE))))) ?_
    exact w_M_worth_93 C T H16 _ _ _ _ _ _ hf
  · refine zr_aload_n 0 79 C (by decide +kernel) rfl rfl ?_
    refine mg_0_45 (idx := 109) 82 C (by decide +kernel) rfl q_1036 ?_
    refine zr_iload 4 84 C (by decide +kernel) rfl rfl ?_
    refine ml_25 85 C (by decide +kernel) rfl hf (fun hf => ?_)
    refine zr_goto (off := 8) 93 C (by decide +kernel) (by decide) ?_
    refine zr_less (zA (zA (zA (zA (zN zE))))) ?_
    exact w_M_worth_93 C T H16 _ _ _ _ _ _ hf
def f_M_worth_16b (k16 : Int32 → Int32 → Int32 → zS → Option (Int32 × zS)) (x1 : Int32) (x2 : Int32) (x3 : Int32) (σ : zS) : Option (Int32 × zS) :=
  zin (((4 * (σ.1 24)) + x1) + 1) 24 ((if (σ.2 16 (((4 * (σ.1 24)) + x1) + 1).toNatClampNeg) ≤ x3 then
  zin 0 200 (some (σ.2 24 (0 : Int32).toNatClampNeg, σ))
  else
  zin ((200 * (σ.1 24)) + x3) 1200 (zlt (σ.2 15 ((200 * (σ.1 24)) + x3).toNatClampNeg) fun v1 => 
  (if 100000 ≤ v1 then
  f_M_worth_66 k16 x1 x2 x3 v1 σ
  else
  (if 11 ≤ v1 then
  (if v1 = 13 then
  zin (x2 - 1) 200 ((if (σ.2 24 (x2 - 1).toNatClampNeg) = 0 then
  f_M_worth_130 k16 x1 x2 x3 (x2 - 1) 1 σ
  else
  f_M_worth_130 k16 x1 x2 x3 (x2 - 1) 0 σ))
  else
  (if v1 = 19 then
  zin (x2 - 1) 200 (zin (x2 - 1) 200 (zlt (zsa σ 24 (x2 - 1) (-(σ.2 24 (x2 - 1).toNatClampNeg))) fun σ5 =>
  f_M_worth_191 k16 x1 x2 x3 σ5))
  else
  zin ((x2 + (-1)) - 1) 200 (zin (x2 + (-1)) 200 (zbd (f_M_two v1 (σ.2 24 ((x2 + (-1)) - 1).toNatClampNeg) (σ.2 24 (x2 + (-1)).toNatClampNeg) σ) fun r3 σ2 =>
  zin ((x2 + (-1)) - 1) 200 (zlt (zsa σ2 24 ((x2 + (-1)) - 1) r3) fun σ4 =>
  f_M_worth_191 k16 x1 (x2 + (-1)) x3 σ4)))))
  else
  f_M_worth_66 k16 x1 x2 x3 v1 σ)))))
set_option maxRecDepth 4000 in
theorem w_M_worth_16b {l : Launch} {d : zD} {F : zF} {h : Nat → Nat} {out : Int32 × zS} {k16 : Int32 → Int32 → Int32 → zS → Option (Int32 × zS)} (C : zOk d F RX11 cX11_worth 5 1 22) (T : zRt d F (some .int) (some (.int out.1)) (MW d h out.2)) (H16 : ∀ (x1 : Int32) (x2 : Int32) (x3 : Int32) (σ : zS), k16 x1 x2 x3 σ = some out → V l d F 0 0 (MW d h σ) [some (.ref (h 0)), some (.int x1), some (.int x2), some (.int x3), none] 16 []) (x1 : Int32) (x2 : Int32) (x3 : Int32) (σ : zS) (hf : f_M_worth_16b k16 x1 x2 x3 σ = some out) : V l d F 0 0 (MW d h σ) [some (.ref (h 0)), some (.int x1), some (.int x2), some (.int x3), none] 16 [] := by
  unfold f_M_worth_16b at hf
  refine zr_iload_n 3 17 C (by decide +kernel) rfl rfl ?_
  refine zr_aload_n 0 18 C (by decide +kernel) rfl rfl ?_
  refine mg_0_22 (idx := 55) 21 C (by decide +kernel) rfl q_1013 ?_
  refine zr_iconst (v := 4) 4 22 C (by decide +kernel) rfl rfl ?_
  refine zr_aload_n 0 23 C (by decide +kernel) rfl rfl ?_
  refine mg_0_24 (idx := 218) 26 C (by decide +kernel) rfl q_1015 ?_
  refine zr_imul 27 C (by decide +kernel) rfl ?_
  refine zr_iload_n 1 28 C (by decide +kernel) rfl rfl ?_
  refine zr_iadd 29 C (by decide +kernel) rfl ?_
  refine zr_iconst (v := 1) 1 30 C (by decide +kernel) rfl rfl ?_
  refine zr_iadd 31 C (by decide +kernel) rfl ?_
  refine ml_16 32 C (by decide +kernel) rfl hf (fun hf => ?_)
  refine zr_icmp_ge (off := 165) 197 35 C (by decide +kernel) (by decide) rfl hf (fun hf => ?_) (fun hf => ?_)
  · refine zr_aload_n 0 198 C (by decide +kernel) rfl rfl ?_
    refine mg_0_44 (idx := 106) 201 C (by decide +kernel) rfl q_1035 ?_
    refine zr_iconst (v := 0) 0 202 C (by decide +kernel) rfl rfl ?_
    refine ml_24 203 C (by decide +kernel) rfl hf (fun hf => ?_)
    obtain rfl := Option.some.inj hf
    exact zr_iret C (by decide +kernel) T
  · refine zr_aload_n 0 36 C (by decide +kernel) rfl rfl ?_
    refine mg_0_21 (idx := 52) 39 C (by decide +kernel) rfl q_1012 ?_
    refine zr_sipush (v := 200) 200 42 C (by decide +kernel) rfl rfl ?_
    refine zr_aload_n 0 43 C (by decide +kernel) rfl rfl ?_
    refine mg_0_24 (idx := 218) 46 C (by decide +kernel) rfl q_1015 ?_
    refine zr_imul 47 C (by decide +kernel) rfl ?_
    refine zr_iload_n 3 48 C (by decide +kernel) rfl rfl ?_
    refine zr_iadd 49 C (by decide +kernel) rfl ?_
    refine ml_15 50 C (by decide +kernel) rfl hf (fun hf => ?_)
    refine zr_name hf (fun v1 hf => ?_)
    refine zr_istore 4 [some (.ref (h 0)), some (.int x1), some (.int x2), some (.int x3), some (.int v1)] 52 C (by decide +kernel) rfl (by decide) rfl rfl ?_
    refine zr_iload 4 54 C (by decide +kernel) rfl rfl ?_
    refine zr_ldc (v := 100000) (i := 203) 56 C (by decide +kernel) rfl q_1213 ?_
    refine zr_icmp_ge (off := 10) 66 59 C (by decide +kernel) (by decide) rfl hf (fun hf => ?_) (fun hf => ?_)
    · exact w_M_worth_66 C T H16 _ _ _ _ _ hf
    · refine zr_iload 4 61 C (by decide +kernel) rfl rfl ?_
      refine zr_bipush (v := 11) 11 63 C (by decide +kernel) rfl rfl ?_
      refine zr_icmp_ge (off := 37) 100 66 C (by decide +kernel) (by decide) rfl hf (fun hf => ?_) (fun hf => ?_)
      · refine zr_iload 4 102 C (by decide +kernel) rfl rfl ?_
        refine zr_bipush (v := 13) 13 104 C (by decide +kernel) rfl rfl ?_
        refine zr_icmp_ne (off := 30) 134 107 C (by decide +kernel) (by decide) rfl hf (fun hf => ?_) (fun hf => ?_)
        · refine zr_iload 4 136 C (by decide +kernel) rfl rfl ?_
          refine zr_bipush (v := 19) 19 138 C (by decide +kernel) rfl rfl ?_
          refine zr_icmp_ne (off := 23) 161 141 C (by decide +kernel) (by decide) rfl hf (fun hf => ?_) (fun hf => ?_)
          · refine zr_iinc (j := -1) 2 [some (.ref (h 0)), some (.int x1), some (.int (x2 + (-1))), some (.int x3), some (.int v1)] 164 C (by decide +kernel) rfl rfl rfl (by decide) rfl rfl ?_
            refine zr_aload_n 0 165 C (by decide +kernel) rfl rfl ?_
            refine mg_0_44 (idx := 106) 168 C (by decide +kernel) rfl q_1035 ?_
            refine zr_iload_n 2 169 C (by decide +kernel) rfl rfl ?_
            refine zr_iconst (v := 1) 1 170 C (by decide +kernel) rfl rfl ?_
            refine zr_isub 171 C (by decide +kernel) rfl ?_
            refine zr_iload 4 173 C (by decide +kernel) rfl rfl ?_
            refine zr_aload_n 0 174 C (by decide +kernel) rfl rfl ?_
            refine mg_0_44 (idx := 106) 177 C (by decide +kernel) rfl q_1035 ?_
            refine zr_iload_n 2 178 C (by decide +kernel) rfl rfl ?_
            refine zr_iconst (v := 1) 1 179 C (by decide +kernel) rfl rfl ?_
            refine zr_isub 180 C (by decide +kernel) rfl ?_
            refine ml_24 181 C (by decide +kernel) rfl hf (fun hf => ?_)
            refine zr_aload_n 0 182 C (by decide +kernel) rfl rfl ?_
            refine mg_0_44 (idx := 106) 185 C (by decide +kernel) rfl q_1035 ?_
            refine zr_iload_n 2 186 C (by decide +kernel) rfl rfl ?_
            refine ml_24 187 C (by decide +kernel) rfl hf (fun hf => ?_)
            refine k_M_two (idx := 221) 190 C (by decide +kernel) rfl q_1267 (zb2 rfl rfl) (Nat.le_of_ble_eq_true rfl) hf (fun r3 σ2 hf => ?_)
            refine ms_24 191 C (by decide +kernel) rfl hf (fun σ4 hf => ?_)
            refine zr_less (zA (zA (zA (zA (zN zE))))) ?_
            exact w_M_worth_191 C T H16 _ _ _ _ hf
          · refine zr_aload_n 0 142 C (by decide +kernel) rfl rfl ?_
            refine mg_0_44 (idx := 106) 145 C (by decide +kernel) rfl q_1035 ?_
            refine zr_iload_n 2 146 C (by decide +kernel) rfl rfl ?_
            refine zr_iconst (v := 1) 1 147 C (by decide +kernel) rfl rfl ?_
            refine zr_isub 148 C (by decide +kernel) rfl ?_
            refine zr_aload_n 0 149 C (by decide +kernel) rfl rfl ?_
            refine mg_0_44 (idx := 106) 152 C (by decide +kernel) rfl q_1035 ?_
            refine zr_iload_n 2 153 C (by decide +kernel) rfl rfl ?_
            refine zr_iconst (v := 1) 1 154 C (by decide +kernel) rfl rfl ?_
            refine zr_isub 155 C (by decide +kernel) rfl ?_
            refine ml_24 156 C (by decide +kernel) rfl hf (fun hf => ?_)
            refine zr_ineg 157 C (by decide +kernel) rfl ?_
            refine ms_24 158 C (by decide +kernel) rfl hf (fun σ5 hf => ?_)
            refine zr_goto (off := 33) 191 C (by decide +kernel) (by decide) ?_
            refine zr_less (zA (zA (zA (zA (zN zE))))) ?_
            exact w_M_worth_191 C T H16 _ _ _ _ hf
        · refine zr_aload_n 0 108 C (by decide +kernel) rfl rfl ?_
          refine mg_0_44 (idx := 106) 111 C (by decide +kernel) rfl q_1035 ?_
          refine zr_iload_n 2 112 C (by decide +kernel) rfl rfl ?_
          refine zr_iconst (v := 1) 1 113 C (by decide +kernel) rfl rfl ?_
          refine zr_isub 114 C (by decide +kernel) rfl ?_
          refine zr_aload_n 0 115 C (by decide +kernel) rfl rfl ?_
          refine mg_0_44 (idx := 106) 118 C (by decide +kernel) rfl q_1035 ?_
          refine zr_iload_n 2 119 C (by decide +kernel) rfl rfl ?_
          refine zr_iconst (v := 1) 1 120 C (by decide +kernel) rfl rfl ?_
          refine zr_isub 121 C (by decide +kernel) rfl ?_
          refine ml_24 122 C (by decide +kernel) rfl hf (fun hf => ?_)
          refine zr_if_ne (off := 7) 129 125 C (by decide +kernel) (by decide) rfl hf (fun hf => ?_) (fun hf => ?_)
          · refine zr_iconst (v := 0) 0 130 C (by decide +kernel) rfl rfl ?_
            refine zr_less (zA (zA (zA (zA (zN zE))))) ?_
            exact w_M_worth_130 C T H16 _ _ _ _ _ _ hf
          · refine zr_iconst (v := 1) 1 126 C (by decide +kernel) rfl rfl ?_
            refine zr_goto (off := 4) 130 C (by decide +kernel) (by decide) ?_
            refine zr_less (zA (zA (zA (zA (zN zE))))) ?_
            exact w_M_worth_130 C T H16 _ _ _ _ _ _ hf
      · exact w_M_worth_66 C T H16 _ _ _ _ _ hf
def f_M_worth_16  : Nat → Int32 → Int32 → Int32 → zS → Option (Int32 × zS)
  | 0, _, _, _, _ => none
  | n + 1, x1, x2, x3,  σ => f_M_worth_16b (fun x1 x2 x3 σ => f_M_worth_16  n x1 x2 x3 σ) x1 x2 x3 σ
theorem w_M_worth_16 {l : Launch} {d : zD} {F : zF} {h : Nat → Nat} {out : Int32 × zS}  (C : zOk d F RX11 cX11_worth 5 1 22) (T : zRt d F (some .int) (some (.int out.1)) (MW d h out.2))  : ∀ (n : Nat) (x1 : Int32) (x2 : Int32) (x3 : Int32) (σ : zS), f_M_worth_16  n x1 x2 x3 σ = some out → V l d F 0 0 (MW d h σ) [some (.ref (h 0)), some (.int x1), some (.int x2), some (.int x3), none] 16 [] := by
  intro n
  induction n with
  | zero =>
    intro x1 x2 x3 σ hf
    cases hf
  | succ n ih =>
    intro x1 x2 x3 σ hf
    exact w_M_worth_16b C T ih x1 x2 x3 σ hf
def f_M_worth (p1 : Int32) (σ : zS) : Option (Int32 × zS) :=
  zin ((4 * (σ.1 24)) + p1) 24 (zlt (σ.2 16 ((4 * (σ.1 24)) + p1).toNatClampNeg) fun v1 => 
  f_M_worth_16 zfu p1 0 v1 σ)
set_option maxRecDepth 4000 in
theorem m_M_worth {l : Launch} {d : zD} {h : Nat → Nat} {out : Int32 × zS} {σ : zS} {p1 : Int32} (hf : f_M_worth p1 σ = some out) : zM l yX11_worth cX11_worth 5 (some .int) 1 22 d [.ref (h 0), .int p1] (MW d h σ) (MW d h out.2) (some (.int out.1)) := by
  refine zM_of [some (.ref (h 0)), some (.int p1), none, none, none] (by decide +kernel) rfl (Nat.le_of_ble_eq_true rfl) (fun F C T => ?_)
  unfold f_M_worth at hf
  refine zr_iconst (v := 0) 0 1 C (by decide +kernel) rfl rfl ?_
  refine zr_istore_n 2 [some (.ref (h 0)), some (.int p1), some (.int 0), none, none] 2 C (by decide +kernel) rfl (by decide) rfl rfl ?_
  refine zr_aload_n 0 3 C (by decide +kernel) rfl rfl ?_
  refine mg_0_22 (idx := 55) 6 C (by decide +kernel) rfl q_1013 ?_
  refine zr_iconst (v := 4) 4 7 C (by decide +kernel) rfl rfl ?_
  refine zr_aload_n 0 8 C (by decide +kernel) rfl rfl ?_
  refine mg_0_24 (idx := 218) 11 C (by decide +kernel) rfl q_1015 ?_
  refine zr_imul 12 C (by decide +kernel) rfl ?_
  refine zr_iload_n 1 13 C (by decide +kernel) rfl rfl ?_
  refine zr_iadd 14 C (by decide +kernel) rfl ?_
  refine ml_16 15 C (by decide +kernel) rfl hf (fun hf => ?_)
  refine zr_name hf (fun v1 hf => ?_)
  refine zr_istore_n 3 [some (.ref (h 0)), some (.int p1), some (.int 0), some (.int v1), none] 16 C (by decide +kernel) rfl (by decide) rfl rfl ?_
  exact w_M_worth_16 C T zfu _ _ _ _ hf
theorem y_M_worth : zY yX11_worth cX11_worth 5 (some .int) 1 := ⟨q_1266, q_90, by decide +kernel, by decide +kernel, by decide +kernel⟩
theorem k_M_worth {l : Launch} {d : zD} {F : zF} {h : Nat → Nat} {σ : zS} {lv : List (Option Value)} {pc : Nat} {own : String} {cc : ByteArray} {nL fr lo idx : Nat} {rest : List Value} {β : Type} {kf : Int32 → zS → Option β} {o2 : β} {p1 : Int32} (pc' : Nat) (C : zOk d F own cc nL fr lo) (hd : decode cc pc = .ok (.invokevirtual idx, 3)) (hp : pc + 3 = pc') (hq : Cond.methodLink own idx yX11_worth ∈ zW) (hm : 1 + 1 ≤ fr ∧ 8 + (5 + 11) + 22 ≤ lo) (hr : (rest.map fun v => v.category).sum ≤ 8) (hf : zbd (f_M_worth p1 σ) kf = some o2) (K : ∀ (r : Int32) (σ' : zS), kf r σ' = some o2 → V l d F 0 0 (MW d h σ') lv pc' (.int r :: rest)) : V l d F 0 0 (MW d h σ) lv pc (.int p1 :: .ref (h 0) :: rest) := by
  obtain ⟨q, h1, h2⟩ := zbd_some hf
  exact zr_callV y_M_worth ⟨q_1265, q_49⟩ 0 rfl rfl (As := [.int p1]) (m_M_worth h1) rfl rfl pc' C hd hp hq hm hr (K _ _ h2)
/-! StepsBeyondModel.force(I)I -/
def f_M_force (p1 : Int32) (σ : zS) : Option (Int32 × zS) :=
  zbd (f_M_in p1 0 ((σ.1 23) - 1) σ) fun r2 σ1 =>
  (if r2 = 0 then
  some (-2, σ1)
  else
  zlt (σ1.1 24) fun v3 => 
  zlt (zsg σ1 24 p1) fun σ4 =>
  some (v3, σ4))
set_option maxRecDepth 4000 in
theorem m_M_force {l : Launch} {d : zD} {h : Nat → Nat} {out : Int32 × zS} {σ : zS} {p1 : Int32} (hf : f_M_force p1 σ = some out) : zM l yX11_force cX11_force 3 (some .int) 1 22 d [.ref (h 0), .int p1] (MW d h σ) (MW d h out.2) (some (.int out.1)) := by
  refine zM_of [some (.ref (h 0)), some (.int p1), none] (by decide +kernel) rfl (Nat.le_of_ble_eq_true rfl) (fun F C T => ?_)
  unfold f_M_force at hf
  refine zr_iload_n 1 1 C (by decide +kernel) rfl rfl ?_
  refine zr_iconst (v := 0) 0 2 C (by decide +kernel) rfl rfl ?_
  refine zr_aload_n 0 3 C (by decide +kernel) rfl rfl ?_
  refine mg_0_23 (idx := 58) 6 C (by decide +kernel) rfl q_1014 ?_
  refine zr_iconst (v := 1) 1 7 C (by decide +kernel) rfl rfl ?_
  refine zr_isub 8 C (by decide +kernel) rfl ?_
  refine k_M_in (idx := 139) 11 C (by decide +kernel) rfl q_1181 (zb2 rfl rfl) (Nat.le_of_ble_eq_true rfl) hf (fun r2 σ1 hf => ?_)
  refine zr_if_ne (off := 6) 17 14 C (by decide +kernel) (by decide) rfl hf (fun hf => ?_) (fun hf => ?_)
  · refine zr_aload_n 0 18 C (by decide +kernel) rfl rfl ?_
    refine mg_0_24 (idx := 218) 21 C (by decide +kernel) rfl q_1015 ?_
    refine zr_name hf (fun v3 hf => ?_)
    refine zr_istore_n 2 [some (.ref (h 0)), some (.int p1), some (.int v3)] 22 C (by decide +kernel) rfl (by decide) rfl rfl ?_
    refine zr_aload_n 0 23 C (by decide +kernel) rfl rfl ?_
    refine zr_iload_n 1 24 C (by decide +kernel) rfl rfl ?_
    refine mp_0_24 (idx := 218) 27 C (by decide +kernel) rfl q_1015 hf (fun σ4 hf => ?_)
    refine zr_iload_n 2 28 C (by decide +kernel) rfl rfl ?_
    obtain rfl := Option.some.inj hf
    exact zr_iret C (by decide +kernel) T
  · refine zr_bipush (v := (-2)) (-2) 16 C (by decide +kernel) rfl rfl ?_
    obtain rfl := Option.some.inj hf
    exact zr_iret C (by decide +kernel) T
theorem y_M_force : zY yX11_force cX11_force 3 (some .int) 1 := ⟨q_1244, q_90, by decide +kernel, by decide +kernel, by decide +kernel⟩
theorem k_M_force {l : Launch} {d : zD} {F : zF} {h : Nat → Nat} {σ : zS} {lv : List (Option Value)} {pc : Nat} {own : String} {cc : ByteArray} {nL fr lo idx : Nat} {rest : List Value} {β : Type} {kf : Int32 → zS → Option β} {o2 : β} {p1 : Int32} (pc' : Nat) (C : zOk d F own cc nL fr lo) (hd : decode cc pc = .ok (.invokevirtual idx, 3)) (hp : pc + 3 = pc') (hq : Cond.methodLink own idx yX11_force ∈ zW) (hm : 1 + 1 ≤ fr ∧ 8 + (3 + 11) + 22 ≤ lo) (hr : (rest.map fun v => v.category).sum ≤ 8) (hf : zbd (f_M_force p1 σ) kf = some o2) (K : ∀ (r : Int32) (σ' : zS), kf r σ' = some o2 → V l d F 0 0 (MW d h σ') lv pc' (.int r :: rest)) : V l d F 0 0 (MW d h σ) lv pc (.int p1 :: .ref (h 0) :: rest) := by
  obtain ⟨q, h1, h2⟩ := zbd_some hf
  exact zr_callV y_M_force ⟨q_1242, q_1243⟩ 0 rfl rfl (As := [.int p1]) (m_M_force h1) rfl rfl pc' C hd hp hq hm hr (K _ _ h2)
/-! StepsBeyondModel.areNear(III)Z -/
def f_M_areNear (p1 : Int32) (p2 : Int32) (p3 : Int32) (σ : zS) : Option (Int32 × zS) :=
  zlt ((zrem p1 40) - (zrem p2 40)) fun v1 => 
  zlt ((p1 / 40) - (p2 / 40)) fun v2 => 
  zin 0 6 (zlt (zsa σ 25 0 ((v1 * v1) + (v2 * v2))) fun σ3 =>
  zbd (f_M_apart p1 p2 σ3) fun r5 σ4 =>
  zin 1 6 (zlt (zsa σ4 25 1 r5) fun σ6 =>
  zin 2 6 (zlt (zsa σ6 25 2 p3) fun σ7 =>
  zin 3 6 (zlt (zsa σ7 25 3 (σ7.1 0)) fun σ8 =>
  zin 4 6 (zlt (zsa σ8 25 4 0) fun σ9 =>
  zin 5 6 (zlt (zsa σ9 25 5 (σ9.1 8)) fun σ10 =>
  zbd (f_M_worth 0 σ10) fun r12 σ11 =>
  (if r12 = 0 then
  some (0, σ11)
  else
  some (1, σ11))))))))
set_option maxRecDepth 4000 in
theorem m_M_areNear {l : Launch} {d : zD} {h : Nat → Nat} {out : Int32 × zS} {σ : zS} {p1 : Int32} {p2 : Int32} {p3 : Int32} (hf : f_M_areNear p1 p2 p3 σ = some out) : zM l yX11_areNear cX11_areNear 6 (some .boolean) 2 46 d [.ref (h 0), .int p1, .int p2, .int p3] (MW d h σ) (MW d h out.2) (some (.int out.1)) := by
  refine zM_of [some (.ref (h 0)), some (.int p1), some (.int p2), some (.int p3), none, none] (by decide +kernel) rfl (Nat.le_of_ble_eq_true rfl) (fun F C T => ?_)
  unfold f_M_areNear at hf
  refine zr_iload_n 1 1 C (by decide +kernel) rfl rfl ?_
  refine zr_bipush (v := 40) 40 3 C (by decide +kernel) rfl rfl ?_
  refine zr_irem 4 C (by decide +kernel) rfl (by decide) ?_
  refine zr_iload_n 2 5 C (by decide +kernel) rfl rfl ?_
  refine zr_bipush (v := 40) 40 7 C (by decide +kernel) rfl rfl ?_
  refine zr_irem 8 C (by decide +kernel) rfl (by decide) ?_
  refine zr_isub 9 C (by decide +kernel) rfl ?_
  refine zr_name hf (fun v1 hf => ?_)
  refine zr_istore 4 [some (.ref (h 0)), some (.int p1), some (.int p2), some (.int p3), some (.int v1), none] 11 C (by decide +kernel) rfl (by decide) rfl rfl ?_
  refine zr_iload_n 1 12 C (by decide +kernel) rfl rfl ?_
  refine zr_bipush (v := 40) 40 14 C (by decide +kernel) rfl rfl ?_
  refine zr_idiv 15 C (by decide +kernel) rfl (by decide) ?_
  refine zr_iload_n 2 16 C (by decide +kernel) rfl rfl ?_
  refine zr_bipush (v := 40) 40 18 C (by decide +kernel) rfl rfl ?_
  refine zr_idiv 19 C (by decide +kernel) rfl (by decide) ?_
  refine zr_isub 20 C (by decide +kernel) rfl ?_
  refine zr_name hf (fun v2 hf => ?_)
  refine zr_istore 5 [some (.ref (h 0)), some (.int p1), some (.int p2), some (.int p3), some (.int v1), some (.int v2)] 22 C (by decide +kernel) rfl (by decide) rfl rfl ?_
  refine zr_aload_n 0 23 C (by decide +kernel) rfl rfl ?_
  refine mg_0_45 (idx := 109) 26 C (by decide +kernel) rfl q_1036 ?_
  refine zr_iconst (v := 0) 0 27 C (by decide +kernel) rfl rfl ?_
  refine zr_iload 4 29 C (by decide +kernel) rfl rfl ?_
  refine zr_iload 4 31 C (by decide +kernel) rfl rfl ?_
  refine zr_imul 32 C (by decide +kernel) rfl ?_
  refine zr_iload 5 34 C (by decide +kernel) rfl rfl ?_
  refine zr_iload 5 36 C (by decide +kernel) rfl rfl ?_
  refine zr_imul 37 C (by decide +kernel) rfl ?_
  refine zr_iadd 38 C (by decide +kernel) rfl ?_
  refine ms_25 39 C (by decide +kernel) rfl hf (fun σ3 hf => ?_)
  refine zr_aload_n 0 40 C (by decide +kernel) rfl rfl ?_
  refine mg_0_45 (idx := 109) 43 C (by decide +kernel) rfl q_1036 ?_
  refine zr_iconst (v := 1) 1 44 C (by decide +kernel) rfl rfl ?_
  refine zr_iload_n 1 45 C (by decide +kernel) rfl rfl ?_
  refine zr_iload_n 2 46 C (by decide +kernel) rfl rfl ?_
  refine k_M_apart (idx := 225) 49 C (by decide +kernel) rfl q_1257 (zb2 rfl rfl) (Nat.le_of_ble_eq_true rfl) hf (fun r5 σ4 hf => ?_)
  refine ms_25 50 C (by decide +kernel) rfl hf (fun σ6 hf => ?_)
  refine zr_aload_n 0 51 C (by decide +kernel) rfl rfl ?_
  refine mg_0_45 (idx := 109) 54 C (by decide +kernel) rfl q_1036 ?_
  refine zr_iconst (v := 2) 2 55 C (by decide +kernel) rfl rfl ?_
  refine zr_iload_n 3 56 C (by decide +kernel) rfl rfl ?_
  refine ms_25 57 C (by decide +kernel) rfl hf (fun σ7 hf => ?_)
  refine zr_aload_n 0 58 C (by decide +kernel) rfl rfl ?_
  refine mg_0_45 (idx := 109) 61 C (by decide +kernel) rfl q_1036 ?_
  refine zr_iconst (v := 3) 3 62 C (by decide +kernel) rfl rfl ?_
  refine zr_aload_n 0 63 C (by decide +kernel) rfl rfl ?_
  refine mg_0_0 (idx := 143) 66 C (by decide +kernel) rfl q_991 ?_
  refine ms_25 67 C (by decide +kernel) rfl hf (fun σ8 hf => ?_)
  refine zr_aload_n 0 68 C (by decide +kernel) rfl rfl ?_
  refine mg_0_45 (idx := 109) 71 C (by decide +kernel) rfl q_1036 ?_
  refine zr_iconst (v := 4) 4 72 C (by decide +kernel) rfl rfl ?_
  refine zr_iconst (v := 0) 0 73 C (by decide +kernel) rfl rfl ?_
  refine ms_25 74 C (by decide +kernel) rfl hf (fun σ9 hf => ?_)
  refine zr_aload_n 0 75 C (by decide +kernel) rfl rfl ?_
  refine mg_0_45 (idx := 109) 78 C (by decide +kernel) rfl q_1036 ?_
  refine zr_iconst (v := 5) 5 79 C (by decide +kernel) rfl rfl ?_
  refine zr_aload_n 0 80 C (by decide +kernel) rfl rfl ?_
  refine mg_0_8 (idx := 229) 83 C (by decide +kernel) rfl q_999 ?_
  refine ms_25 84 C (by decide +kernel) rfl hf (fun σ10 hf => ?_)
  refine zr_aload_n 0 85 C (by decide +kernel) rfl rfl ?_
  refine zr_iconst (v := 0) 0 86 C (by decide +kernel) rfl rfl ?_
  refine k_M_worth (idx := 232) 89 C (by decide +kernel) rfl q_1263 (zb2 rfl rfl) (Nat.le_of_ble_eq_true rfl) hf (fun r12 σ11 hf => ?_)
  refine zr_if_eq (off := 7) 96 92 C (by decide +kernel) (by decide) rfl hf (fun hf => ?_) (fun hf => ?_)
  · refine zr_iconst (v := 0) 0 97 C (by decide +kernel) rfl rfl ?_
    obtain rfl := Option.some.inj hf
    exact zr_zret C (by decide +kernel) rfl T
  · refine zr_iconst (v := 1) 1 93 C (by decide +kernel) rfl rfl ?_
    refine zr_goto (off := 4) 97 C (by decide +kernel) (by decide) ?_
    obtain rfl := Option.some.inj hf
    exact zr_zret C (by decide +kernel) rfl T
theorem y_M_areNear : zY yX11_areNear cX11_areNear 6 (some .boolean) 3 := ⟨q_1256, q_90, by decide +kernel, by decide +kernel, by decide +kernel⟩
theorem k_M_areNear {l : Launch} {d : zD} {F : zF} {h : Nat → Nat} {σ : zS} {lv : List (Option Value)} {pc : Nat} {own : String} {cc : ByteArray} {nL fr lo idx : Nat} {rest : List Value} {β : Type} {kf : Int32 → zS → Option β} {o2 : β} {p1 : Int32} {p2 : Int32} {p3 : Int32} (pc' : Nat) (C : zOk d F own cc nL fr lo) (hd : decode cc pc = .ok (.invokevirtual idx, 3)) (hp : pc + 3 = pc') (hq : Cond.methodLink own idx yX11_areNear ∈ zW) (hm : 2 + 1 ≤ fr ∧ 8 + (6 + 11) + 46 ≤ lo) (hr : (rest.map fun v => v.category).sum ≤ 8) (hf : zbd (f_M_areNear p1 p2 p3 σ) kf = some o2) (K : ∀ (r : Int32) (σ' : zS), kf r σ' = some o2 → V l d F 0 0 (MW d h σ') lv pc' (.int r :: rest)) : V l d F 0 0 (MW d h σ) lv pc (.int p3 :: .int p2 :: .int p1 :: .ref (h 0) :: rest) := by
  obtain ⟨q, h1, h2⟩ := zbd_some hf
  exact zr_callV y_M_areNear ⟨q_1255, q_48⟩ 0 rfl rfl (As := [.int p1, .int p2, .int p3]) (m_M_areNear h1) rfl rfl pc' C hd hp hq hm hr (K _ _ h2)
/-! StepsBeyondModel.nearTwo(II)Z -/
def f_M_nearTwo (p1 : Int32) (p2 : Int32) (σ : zS) : Option (Int32 × zS) :=
  zin p1 20 (zin p2 20 (zin p1 20 (zin p2 20 (zbd (f_M_areNear (σ.2 1 p1.toNatClampNeg) (σ.2 1 p2.toNatClampNeg) ((σ.2 2 p1.toNatClampNeg) + (σ.2 2 p2.toNatClampNeg)) σ) fun r2 σ1 =>
  zbo r2 (some (r2, σ1))))))
set_option maxRecDepth 4000 in
theorem m_M_nearTwo {l : Launch} {d : zD} {h : Nat → Nat} {out : Int32 × zS} {σ : zS} {p1 : Int32} {p2 : Int32} (hf : f_M_nearTwo p1 p2 σ = some out) : zM l yX11_nearTwo cX11_nearTwo 3 (some .boolean) 3 71 d [.ref (h 0), .int p1, .int p2] (MW d h σ) (MW d h out.2) (some (.int out.1)) := by
  refine zM_of [some (.ref (h 0)), some (.int p1), some (.int p2)] (by decide +kernel) rfl (Nat.le_of_ble_eq_true rfl) (fun F C T => ?_)
  unfold f_M_nearTwo at hf
  refine zr_aload_n 0 1 C (by decide +kernel) rfl rfl ?_
  refine zr_aload_n 0 2 C (by decide +kernel) rfl rfl ?_
  refine mg_0_1 (idx := 7) 5 C (by decide +kernel) rfl q_992 ?_
  refine zr_iload_n 1 6 C (by decide +kernel) rfl rfl ?_
  refine ml_1 7 C (by decide +kernel) rfl hf (fun hf => ?_)
  refine zr_aload_n 0 8 C (by decide +kernel) rfl rfl ?_
  refine mg_0_1 (idx := 7) 11 C (by decide +kernel) rfl q_992 ?_
  refine zr_iload_n 2 12 C (by decide +kernel) rfl rfl ?_
  refine ml_1 13 C (by decide +kernel) rfl hf (fun hf => ?_)
  refine zr_aload_n 0 14 C (by decide +kernel) rfl rfl ?_
  refine mg_0_2 (idx := 13) 17 C (by decide +kernel) rfl q_993 ?_
  refine zr_iload_n 1 18 C (by decide +kernel) rfl rfl ?_
  refine ml_2 19 C (by decide +kernel) rfl hf (fun hf => ?_)
  refine zr_aload_n 0 20 C (by decide +kernel) rfl rfl ?_
  refine mg_0_2 (idx := 13) 23 C (by decide +kernel) rfl q_993 ?_
  refine zr_iload_n 2 24 C (by decide +kernel) rfl rfl ?_
  refine ml_2 25 C (by decide +kernel) rfl hf (fun hf => ?_)
  refine zr_iadd 26 C (by decide +kernel) rfl ?_
  refine k_M_areNear (idx := 235) 29 C (by decide +kernel) rfl q_1253 (zb2 rfl rfl) (Nat.le_of_ble_eq_true rfl) hf (fun r2 σ1 hf => ?_)
  obtain ⟨hz, hf⟩ := zbo_some hf
  obtain rfl := Option.some.inj hf
  exact zr_zret C (by decide +kernel) hz T
theorem y_M_nearTwo : zY yX11_nearTwo cX11_nearTwo 3 (some .boolean) 2 := ⟨q_1252, q_90, by decide +kernel, by decide +kernel, by decide +kernel⟩
theorem k_M_nearTwo {l : Launch} {d : zD} {F : zF} {h : Nat → Nat} {σ : zS} {lv : List (Option Value)} {pc : Nat} {own : String} {cc : ByteArray} {nL fr lo idx : Nat} {rest : List Value} {β : Type} {kf : Int32 → zS → Option β} {o2 : β} {p1 : Int32} {p2 : Int32} (pc' : Nat) (C : zOk d F own cc nL fr lo) (hd : decode cc pc = .ok (.invokevirtual idx, 3)) (hp : pc + 3 = pc') (hq : Cond.methodLink own idx yX11_nearTwo ∈ zW) (hm : 3 + 1 ≤ fr ∧ 8 + (3 + 11) + 71 ≤ lo) (hr : (rest.map fun v => v.category).sum ≤ 8) (hf : zbd (f_M_nearTwo p1 p2 σ) kf = some o2) (K : ∀ (r : Int32) (σ' : zS), kf r σ' = some o2 → V l d F 0 0 (MW d h σ') lv pc' (.int r :: rest)) : V l d F 0 0 (MW d h σ) lv pc (.int p2 :: .int p1 :: .ref (h 0) :: rest) := by
  obtain ⟨q, h1, h2⟩ := zbd_some hf
  exact zr_callV y_M_nearTwo ⟨q_1251, q_47⟩ 0 rfl rfl (As := [.int p1, .int p2]) (m_M_nearTwo h1) rfl rfl pc' C hd hp hq hm hr (K _ _ h2)
/-! StepsBeyondModel.near(II)I -/
def f_M_near (p1 : Int32) (p2 : Int32) (σ : zS) : Option (Int32 × zS) :=
  zbd (f_M_isHouse p1 σ) fun r2 σ1 =>
  (if r2 = 0 then
  some (-2, σ1)
  else
  zbd (f_M_isHouse p2 σ1) fun r4 σ3 =>
  (if r4 = 0 then
  some (-2, σ3)
  else
  (if p1 = p2 then
  some (-2, σ3)
  else
  zbd (f_M_nearTwo p1 p2 σ3) fun r6 σ5 =>
  (if r6 = 0 then
  some (0, σ5)
  else
  some (1, σ5)))))
set_option maxRecDepth 4000 in
theorem m_M_near {l : Launch} {d : zD} {h : Nat → Nat} {out : Int32 × zS} {σ : zS} {p1 : Int32} {p2 : Int32} (hf : f_M_near p1 p2 σ = some out) : zM l yX11_near cX11_near 3 (some .int) 4 93 d [.ref (h 0), .int p1, .int p2] (MW d h σ) (MW d h out.2) (some (.int out.1)) := by
  refine zM_of [some (.ref (h 0)), some (.int p1), some (.int p2)] (by decide +kernel) rfl (Nat.le_of_ble_eq_true rfl) (fun F C T => ?_)
  unfold f_M_near at hf
  refine zr_aload_n 0 1 C (by decide +kernel) rfl rfl ?_
  refine zr_iload_n 1 2 C (by decide +kernel) rfl rfl ?_
  refine k_M_isHouse (idx := 154) 5 C (by decide +kernel) rfl q_1188 (zb2 rfl rfl) (Nat.le_of_ble_eq_true rfl) hf (fun r2 σ1 hf => ?_)
  refine zr_if_eq (off := 16) 21 8 C (by decide +kernel) (by decide) rfl hf (fun hf => ?_) (fun hf => ?_)
  · refine zr_bipush (v := (-2)) (-2) 23 C (by decide +kernel) rfl rfl ?_
    obtain rfl := Option.some.inj hf
    exact zr_iret C (by decide +kernel) T
  · refine zr_aload_n 0 9 C (by decide +kernel) rfl rfl ?_
    refine zr_iload_n 2 10 C (by decide +kernel) rfl rfl ?_
    refine k_M_isHouse (idx := 154) 13 C (by decide +kernel) rfl q_1188 (zb2 rfl rfl) (Nat.le_of_ble_eq_true rfl) hf (fun r4 σ3 hf => ?_)
    refine zr_if_eq (off := 8) 21 16 C (by decide +kernel) (by decide) rfl hf (fun hf => ?_) (fun hf => ?_)
    · refine zr_bipush (v := (-2)) (-2) 23 C (by decide +kernel) rfl rfl ?_
      obtain rfl := Option.some.inj hf
      exact zr_iret C (by decide +kernel) T
    · refine zr_iload_n 1 17 C (by decide +kernel) rfl rfl ?_
      refine zr_iload_n 2 18 C (by decide +kernel) rfl rfl ?_
      refine zr_icmp_ne (off := 6) 24 21 C (by decide +kernel) (by decide) rfl hf (fun hf => ?_) (fun hf => ?_)
      · refine zr_aload_n 0 25 C (by decide +kernel) rfl rfl ?_
        refine zr_iload_n 1 26 C (by decide +kernel) rfl rfl ?_
        refine zr_iload_n 2 27 C (by decide +kernel) rfl rfl ?_
        refine k_M_nearTwo (idx := 238) 30 C (by decide +kernel) rfl q_1249 (zb2 rfl rfl) (Nat.le_of_ble_eq_true rfl) hf (fun r6 σ5 hf => ?_)
        refine zr_if_eq (off := 7) 37 33 C (by decide +kernel) (by decide) rfl hf (fun hf => ?_) (fun hf => ?_)
        · refine zr_iconst (v := 0) 0 38 C (by decide +kernel) rfl rfl ?_
          obtain rfl := Option.some.inj hf
          exact zr_iret C (by decide +kernel) T
        · refine zr_iconst (v := 1) 1 34 C (by decide +kernel) rfl rfl ?_
          refine zr_goto (off := 4) 38 C (by decide +kernel) (by decide) ?_
          obtain rfl := Option.some.inj hf
          exact zr_iret C (by decide +kernel) T
      · refine zr_bipush (v := (-2)) (-2) 23 C (by decide +kernel) rfl rfl ?_
        obtain rfl := Option.some.inj hf
        exact zr_iret C (by decide +kernel) T
theorem y_M_near : zY yX11_near cX11_near 3 (some .int) 2 := ⟨q_1248, q_90, by decide +kernel, by decide +kernel, by decide +kernel⟩
theorem k_M_near {l : Launch} {d : zD} {F : zF} {h : Nat → Nat} {σ : zS} {lv : List (Option Value)} {pc : Nat} {own : String} {cc : ByteArray} {nL fr lo idx : Nat} {rest : List Value} {β : Type} {kf : Int32 → zS → Option β} {o2 : β} {p1 : Int32} {p2 : Int32} (pc' : Nat) (C : zOk d F own cc nL fr lo) (hd : decode cc pc = .ok (.invokevirtual idx, 3)) (hp : pc + 3 = pc') (hq : Cond.methodLink own idx yX11_near ∈ zW) (hm : 4 + 1 ≤ fr ∧ 8 + (3 + 11) + 93 ≤ lo) (hr : (rest.map fun v => v.category).sum ≤ 8) (hf : zbd (f_M_near p1 p2 σ) kf = some o2) (K : ∀ (r : Int32) (σ' : zS), kf r σ' = some o2 → V l d F 0 0 (MW d h σ') lv pc' (.int r :: rest)) : V l d F 0 0 (MW d h σ) lv pc (.int p2 :: .int p1 :: .ref (h 0) :: rest) := by
  obtain ⟨q, h1, h2⟩ := zbd_some hf
  exact zr_callV y_M_near ⟨q_1246, q_1247⟩ 0 rfl rfl (As := [.int p1, .int p2]) (m_M_near h1) rfl rfl pc' C hd hp hq hm hr (K _ _ h2)
/-! StepsBeyondModel.farBy(I)I -/
def f_M_farBy (p1 : Int32) (σ : zS) : Option (Int32 × zS) :=
  zin 0 6 (zlt (zsa σ 25 0 0) fun σ1 =>
  zin 1 6 (zlt (zsa σ1 25 1 0) fun σ2 =>
  zin 2 6 (zlt (zsa σ2 25 2 0) fun σ3 =>
  zin 3 6 (zlt (zsa σ3 25 3 (σ3.1 0)) fun σ4 =>
  zin 4 6 (zlt (zsa σ4 25 4 p1) fun σ5 =>
  zin 5 6 (zlt (zsa σ5 25 5 (σ5.1 8)) fun σ6 =>
  zbd (f_M_worth 1 σ6) fun r8 σ7 =>
  (if 0 ≤ r8 then
  (if r8 ≤ 50 then
  some (r8, σ7)
  else
  some (50, σ7))
  else
  some (0, σ7))))))))
set_option maxRecDepth 4000 in
theorem m_M_farBy {l : Launch} {d : zD} {h : Nat → Nat} {out : Int32 × zS} {σ : zS} {p1 : Int32} (hf : f_M_farBy p1 σ = some out) : zM l yX11_farBy cX11_farBy 3 (some .int) 2 46 d [.ref (h 0), .int p1] (MW d h σ) (MW d h out.2) (some (.int out.1)) := by
  refine zM_of [some (.ref (h 0)), some (.int p1), none] (by decide +kernel) rfl (Nat.le_of_ble_eq_true rfl) (fun F C T => ?_)
  unfold f_M_farBy at hf
  refine zr_aload_n 0 1 C (by decide +kernel) rfl rfl ?_
  refine mg_0_45 (idx := 109) 4 C (by decide +kernel) rfl q_1036 ?_
  refine zr_iconst (v := 0) 0 5 C (by decide +kernel) rfl rfl ?_
  refine zr_iconst (v := 0) 0 6 C (by decide +kernel) rfl rfl ?_
  refine ms_25 7 C (by decide +kernel) rfl hf (fun σ1 hf => ?_)
  refine zr_aload_n 0 8 C (by decide +kernel) rfl rfl ?_
  refine mg_0_45 (idx := 109) 11 C (by decide +kernel) rfl q_1036 ?_
  refine zr_iconst (v := 1) 1 12 C (by decide +kernel) rfl rfl ?_
  refine zr_iconst (v := 0) 0 13 C (by decide +kernel) rfl rfl ?_
  refine ms_25 14 C (by decide +kernel) rfl hf (fun σ2 hf => ?_)
  refine zr_aload_n 0 15 C (by decide +kernel) rfl rfl ?_
  refine mg_0_45 (idx := 109) 18 C (by decide +kernel) rfl q_1036 ?_
  refine zr_iconst (v := 2) 2 19 C (by decide +kernel) rfl rfl ?_
  refine zr_iconst (v := 0) 0 20 C (by decide +kernel) rfl rfl ?_
  refine ms_25 21 C (by decide +kernel) rfl hf (fun σ3 hf => ?_)
  refine zr_aload_n 0 22 C (by decide +kernel) rfl rfl ?_
  refine mg_0_45 (idx := 109) 25 C (by decide +kernel) rfl q_1036 ?_
  refine zr_iconst (v := 3) 3 26 C (by decide +kernel) rfl rfl ?_
  refine zr_aload_n 0 27 C (by decide +kernel) rfl rfl ?_
  refine mg_0_0 (idx := 143) 30 C (by decide +kernel) rfl q_991 ?_
  refine ms_25 31 C (by decide +kernel) rfl hf (fun σ4 hf => ?_)
  refine zr_aload_n 0 32 C (by decide +kernel) rfl rfl ?_
  refine mg_0_45 (idx := 109) 35 C (by decide +kernel) rfl q_1036 ?_
  refine zr_iconst (v := 4) 4 36 C (by decide +kernel) rfl rfl ?_
  refine zr_iload_n 1 37 C (by decide +kernel) rfl rfl ?_
  refine ms_25 38 C (by decide +kernel) rfl hf (fun σ5 hf => ?_)
  refine zr_aload_n 0 39 C (by decide +kernel) rfl rfl ?_
  refine mg_0_45 (idx := 109) 42 C (by decide +kernel) rfl q_1036 ?_
  refine zr_iconst (v := 5) 5 43 C (by decide +kernel) rfl rfl ?_
  refine zr_aload_n 0 44 C (by decide +kernel) rfl rfl ?_
  refine mg_0_8 (idx := 229) 47 C (by decide +kernel) rfl q_999 ?_
  refine ms_25 48 C (by decide +kernel) rfl hf (fun σ6 hf => ?_)
  refine zr_aload_n 0 49 C (by decide +kernel) rfl rfl ?_
  refine zr_iconst (v := 1) 1 50 C (by decide +kernel) rfl rfl ?_
  refine k_M_worth (idx := 232) 53 C (by decide +kernel) rfl q_1263 (zb2 rfl rfl) (Nat.le_of_ble_eq_true rfl) hf (fun r8 σ7 hf => ?_)
  refine zr_istore_n 2 [some (.ref (h 0)), some (.int p1), some (.int r8)] 54 C (by decide +kernel) rfl (by decide) rfl rfl ?_
  refine zr_iload_n 2 55 C (by decide +kernel) rfl rfl ?_
  refine zr_if_ge (off := 7) 62 58 C (by decide +kernel) (by decide) rfl hf (fun hf => ?_) (fun hf => ?_)
  · refine zr_iload_n 2 63 C (by decide +kernel) rfl rfl ?_
    refine zr_bipush (v := 50) 50 65 C (by decide +kernel) rfl rfl ?_
    refine zr_icmp_le (off := 8) 73 68 C (by decide +kernel) (by decide) rfl hf (fun hf => ?_) (fun hf => ?_)
    · refine zr_iload_n 2 74 C (by decide +kernel) rfl rfl ?_
      obtain rfl := Option.some.inj hf
      exact zr_iret C (by decide +kernel) T
    · refine zr_bipush (v := 50) 50 70 C (by decide +kernel) rfl rfl ?_
      refine zr_goto (off := 4) 74 C (by decide +kernel) (by decide) ?_
      obtain rfl := Option.some.inj hf
      exact zr_iret C (by decide +kernel) T
  · refine zr_iconst (v := 0) 0 59 C (by decide +kernel) rfl rfl ?_
    refine zr_goto (off := 15) 74 C (by decide +kernel) (by decide) ?_
    obtain rfl := Option.some.inj hf
    exact zr_iret C (by decide +kernel) T
theorem y_M_farBy : zY yX11_farBy cX11_farBy 3 (some .int) 1 := ⟨q_1277, q_90, by decide +kernel, by decide +kernel, by decide +kernel⟩
theorem k_M_farBy {l : Launch} {d : zD} {F : zF} {h : Nat → Nat} {σ : zS} {lv : List (Option Value)} {pc : Nat} {own : String} {cc : ByteArray} {nL fr lo idx : Nat} {rest : List Value} {β : Type} {kf : Int32 → zS → Option β} {o2 : β} {p1 : Int32} (pc' : Nat) (C : zOk d F own cc nL fr lo) (hd : decode cc pc = .ok (.invokevirtual idx, 3)) (hp : pc + 3 = pc') (hq : Cond.methodLink own idx yX11_farBy ∈ zW) (hm : 2 + 1 ≤ fr ∧ 8 + (3 + 11) + 46 ≤ lo) (hr : (rest.map fun v => v.category).sum ≤ 8) (hf : zbd (f_M_farBy p1 σ) kf = some o2) (K : ∀ (r : Int32) (σ' : zS), kf r σ' = some o2 → V l d F 0 0 (MW d h σ') lv pc' (.int r :: rest)) : V l d F 0 0 (MW d h σ) lv pc (.int p1 :: .ref (h 0) :: rest) := by
  obtain ⟨q, h1, h2⟩ := zbd_some hf
  exact zr_callV y_M_farBy ⟨q_1276, q_50⟩ 0 rfl rfl (As := [.int p1]) (m_M_farBy h1) rfl rfl pc' C hd hp hq hm hr (K _ _ h2)
/-! StepsBeyondModel.far(I)I -/
def f_M_far (p1 : Int32) (σ : zS) : Option (Int32 × zS) :=
  zbd (f_M_in p1 0 1 σ) fun r2 σ1 =>
  (if r2 = 0 then
  some (-2, σ1)
  else
  zbd (f_M_farBy p1 σ1) fun r4 σ3 =>
  some (r4, σ3))
set_option maxRecDepth 4000 in
theorem m_M_far {l : Launch} {d : zD} {h : Nat → Nat} {out : Int32 × zS} {σ : zS} {p1 : Int32} (hf : f_M_far p1 σ = some out) : zM l yX11_far cX11_far 2 (some .int) 3 68 d [.ref (h 0), .int p1] (MW d h σ) (MW d h out.2) (some (.int out.1)) := by
  refine zM_of [some (.ref (h 0)), some (.int p1)] (by decide +kernel) rfl (Nat.le_of_ble_eq_true rfl) (fun F C T => ?_)
  unfold f_M_far at hf
  refine zr_iload_n 1 1 C (by decide +kernel) rfl rfl ?_
  refine zr_iconst (v := 0) 0 2 C (by decide +kernel) rfl rfl ?_
  refine zr_iconst (v := 1) 1 3 C (by decide +kernel) rfl rfl ?_
  refine k_M_in (idx := 139) 6 C (by decide +kernel) rfl q_1181 (zb2 rfl rfl) (Nat.le_of_ble_eq_true rfl) hf (fun r2 σ1 hf => ?_)
  refine zr_if_eq (off := 11) 17 9 C (by decide +kernel) (by decide) rfl hf (fun hf => ?_) (fun hf => ?_)
  · refine zr_bipush (v := (-2)) (-2) 19 C (by decide +kernel) rfl rfl ?_
    obtain rfl := Option.some.inj hf
    exact zr_iret C (by decide +kernel) T
  · refine zr_aload_n 0 10 C (by decide +kernel) rfl rfl ?_
    refine zr_iload_n 1 11 C (by decide +kernel) rfl rfl ?_
    refine k_M_farBy (idx := 242) 14 C (by decide +kernel) rfl q_1274 (zb2 rfl rfl) (Nat.le_of_ble_eq_true rfl) hf (fun r4 σ3 hf => ?_)
    refine zr_goto (off := 5) 19 C (by decide +kernel) (by decide) ?_
    obtain rfl := Option.some.inj hf
    exact zr_iret C (by decide +kernel) T
theorem y_M_far : zY yX11_far cX11_far 2 (some .int) 1 := ⟨q_1273, q_90, by decide +kernel, by decide +kernel, by decide +kernel⟩
theorem k_M_far {l : Launch} {d : zD} {F : zF} {h : Nat → Nat} {σ : zS} {lv : List (Option Value)} {pc : Nat} {own : String} {cc : ByteArray} {nL fr lo idx : Nat} {rest : List Value} {β : Type} {kf : Int32 → zS → Option β} {o2 : β} {p1 : Int32} (pc' : Nat) (C : zOk d F own cc nL fr lo) (hd : decode cc pc = .ok (.invokevirtual idx, 3)) (hp : pc + 3 = pc') (hq : Cond.methodLink own idx yX11_far ∈ zW) (hm : 3 + 1 ≤ fr ∧ 8 + (2 + 11) + 68 ≤ lo) (hr : (rest.map fun v => v.category).sum ≤ 8) (hf : zbd (f_M_far p1 σ) kf = some o2) (K : ∀ (r : Int32) (σ' : zS), kf r σ' = some o2 → V l d F 0 0 (MW d h σ') lv pc' (.int r :: rest)) : V l d F 0 0 (MW d h σ) lv pc (.int p1 :: .ref (h 0) :: rest) := by
  obtain ⟨q, h1, h2⟩ := zbd_some hf
  exact zr_callV y_M_far ⟨q_1271, q_1272⟩ 0 rfl rfl (As := [.int p1]) (m_M_far h1) rfl rfl pc' C hd hp hq hm hr (K _ _ h2)
/-! StepsBeyondModel.reached(II)I -/
def f_M_reached_113 (k7 : Int32 → Int32 → Int32 → zS → Option (Int32 × zS)) (k16 : Int32 → Int32 → Int32 → Int32 → zS → Option (Int32 × zS)) (x2 : Int32) (x3 : Int32) (x4 : Int32) (x5 : Int32) (σ : zS) : Option (Int32 × zS) :=
  k16 x2 x3 x4 (x5 + 1) σ
set_option maxRecDepth 4000 in
theorem w_M_reached_113 {l : Launch} {d : zD} {F : zF} {h : Nat → Nat} {out : Int32 × zS} {k7 : Int32 → Int32 → Int32 → zS → Option (Int32 × zS)} {k16 : Int32 → Int32 → Int32 → Int32 → zS → Option (Int32 × zS)} (C : zOk d F RX11 cX11_reached 7 4 93) (T : zRt d F (some .int) (some (.int out.1)) (MW d h out.2)) (H7 : ∀ (x2 : Int32) (x3 : Int32) (x4 : Int32) (σ : zS), k7 x2 x3 x4 σ = some out → V l d F 0 0 (MW d h σ) [some (.ref (h 0)), none, some (.int x2), some (.int x3), some (.int x4), none, none] 7 []) (H16 : ∀ (x2 : Int32) (x3 : Int32) (x4 : Int32) (x5 : Int32) (σ : zS), k16 x2 x3 x4 x5 σ = some out → V l d F 0 0 (MW d h σ) [some (.ref (h 0)), none, some (.int x2), some (.int x3), some (.int x4), some (.int x5), none] 16 []) (x2 : Int32) (x3 : Int32) (x4 : Int32) (x5 : Int32) (σ : zS) (hf : f_M_reached_113 k7 k16 x2 x3 x4 x5 σ = some out) : V l d F 0 0 (MW d h σ) [some (.ref (h 0)), none, some (.int x2), some (.int x3), some (.int x4), some (.int x5), none] 113 [] := by
  unfold f_M_reached_113 at hf
  refine zr_iinc (j := 1) 5 [some (.ref (h 0)), none, some (.int x2), some (.int x3), some (.int x4), some (.int (x5 + 1)), none] 116 C (by decide +kernel) rfl rfl rfl (by decide) rfl rfl ?_
  refine zr_goto (off := -100) 16 C (by decide +kernel) (by decide) ?_
  exact H16 _ _ _ _ _ hf
def f_M_reached_107 (k7 : Int32 → Int32 → Int32 → zS → Option (Int32 × zS)) (k16 : Int32 → Int32 → Int32 → Int32 → zS → Option (Int32 × zS)) (k57 : Int32 → Int32 → Int32 → Int32 → Int32 → zS → Option (Int32 × zS)) (x2 : Int32) (x3 : Int32) (x4 : Int32) (x5 : Int32) (x6 : Int32) (σ : zS) : Option (Int32 × zS) :=
  k57 x2 x3 x4 x5 (x6 + 1) σ
set_option maxRecDepth 4000 in
theorem w_M_reached_107 {l : Launch} {d : zD} {F : zF} {h : Nat → Nat} {out : Int32 × zS} {k7 : Int32 → Int32 → Int32 → zS → Option (Int32 × zS)} {k16 : Int32 → Int32 → Int32 → Int32 → zS → Option (Int32 × zS)} {k57 : Int32 → Int32 → Int32 → Int32 → Int32 → zS → Option (Int32 × zS)} (C : zOk d F RX11 cX11_reached 7 4 93) (T : zRt d F (some .int) (some (.int out.1)) (MW d h out.2)) (H7 : ∀ (x2 : Int32) (x3 : Int32) (x4 : Int32) (σ : zS), k7 x2 x3 x4 σ = some out → V l d F 0 0 (MW d h σ) [some (.ref (h 0)), none, some (.int x2), some (.int x3), some (.int x4), none, none] 7 []) (H16 : ∀ (x2 : Int32) (x3 : Int32) (x4 : Int32) (x5 : Int32) (σ : zS), k16 x2 x3 x4 x5 σ = some out → V l d F 0 0 (MW d h σ) [some (.ref (h 0)), none, some (.int x2), some (.int x3), some (.int x4), some (.int x5), none] 16 []) (H57 : ∀ (x2 : Int32) (x3 : Int32) (x4 : Int32) (x5 : Int32) (x6 : Int32) (σ : zS), k57 x2 x3 x4 x5 x6 σ = some out → V l d F 0 0 (MW d h σ) [some (.ref (h 0)), none, some (.int x2), some (.int x3), some (.int x4), some (.int x5), some (.int x6)] 57 []) (x2 : Int32) (x3 : Int32) (x4 : Int32) (x5 : Int32) (x6 : Int32) (σ : zS) (hf : f_M_reached_107 k7 k16 k57 x2 x3 x4 x5 x6 σ = some out) : V l d F 0 0 (MW d h σ) [some (.ref (h 0)), none, some (.int x2), some (.int x3), some (.int x4), some (.int x5), some (.int x6)] 107 [] := by
  unfold f_M_reached_107 at hf
  refine zr_iinc (j := 1) 6 [some (.ref (h 0)), none, some (.int x2), some (.int x3), some (.int x4), some (.int x5), some (.int (x6 + 1))] 110 C (by decide +kernel) rfl rfl rfl (by decide) rfl rfl ?_
  refine zr_goto (off := -53) 57 C (by decide +kernel) (by decide) ?_
  exact H57 _ _ _ _ _ _ hf
def f_M_reached_105 (k7 : Int32 → Int32 → Int32 → zS → Option (Int32 × zS)) (k16 : Int32 → Int32 → Int32 → Int32 → zS → Option (Int32 × zS)) (k57 : Int32 → Int32 → Int32 → Int32 → Int32 → zS → Option (Int32 × zS)) (x2 : Int32) (x4 : Int32) (x5 : Int32) (x6 : Int32) (y0 : Int32) (y1 : Int32) (σ : zS) : Option (Int32 × zS) :=
  zlt (y0 ||| y1) fun v1 => 
  f_M_reached_107 k7 k16 k57 x2 v1 x4 x5 x6 σ
set_option maxRecDepth 4000 in
theorem w_M_reached_105 {l : Launch} {d : zD} {F : zF} {h : Nat → Nat} {out : Int32 × zS} {k7 : Int32 → Int32 → Int32 → zS → Option (Int32 × zS)} {k16 : Int32 → Int32 → Int32 → Int32 → zS → Option (Int32 × zS)} {k57 : Int32 → Int32 → Int32 → Int32 → Int32 → zS → Option (Int32 × zS)} (C : zOk d F RX11 cX11_reached 7 4 93) (T : zRt d F (some .int) (some (.int out.1)) (MW d h out.2)) (H7 : ∀ (x2 : Int32) (x3 : Int32) (x4 : Int32) (σ : zS), k7 x2 x3 x4 σ = some out → V l d F 0 0 (MW d h σ) [some (.ref (h 0)), none, some (.int x2), some (.int x3), some (.int x4), none, none] 7 []) (H16 : ∀ (x2 : Int32) (x3 : Int32) (x4 : Int32) (x5 : Int32) (σ : zS), k16 x2 x3 x4 x5 σ = some out → V l d F 0 0 (MW d h σ) [some (.ref (h 0)), none, some (.int x2), some (.int x3), some (.int x4), some (.int x5), none] 16 []) (H57 : ∀ (x2 : Int32) (x3 : Int32) (x4 : Int32) (x5 : Int32) (x6 : Int32) (σ : zS), k57 x2 x3 x4 x5 x6 σ = some out → V l d F 0 0 (MW d h σ) [some (.ref (h 0)), none, some (.int x2), some (.int x3), some (.int x4), some (.int x5), some (.int x6)] 57 []) (x2 : Int32) (x4 : Int32) (x5 : Int32) (x6 : Int32) (y0 : Int32) (y1 : Int32) (σ : zS) (hf : f_M_reached_105 k7 k16 k57 x2 x4 x5 x6 y0 y1 σ = some out) : V l d F 0 0 (MW d h σ) [some (.ref (h 0)), none, some (.int x2), none, some (.int x4), some (.int x5), some (.int x6)] 105 [.int y1, .int y0] := by
  unfold f_M_reached_105 at hf
  refine zr_ior 106 C (by decide +kernel) rfl ?_
  refine zr_name hf (fun v1 hf => ?_)
  refine zr_istore_n 3 [some (.ref (h 0)), none, some (.int x2), some (.int v1), some (.int x4), some (.int x5), some (.int x6)] 107 C (by decide +kernel) rfl (by decide) rfl rfl ?_
  exact w_M_reached_107 C T H7 H16 H57 _ _ _ _ _ _ hf
def f_M_reached_57b (k7 : Int32 → Int32 → Int32 → zS → Option (Int32 × zS)) (k16 : Int32 → Int32 → Int32 → Int32 → zS → Option (Int32 × zS)) (k57 : Int32 → Int32 → Int32 → Int32 → Int32 → zS → Option (Int32 × zS)) (x2 : Int32) (x3 : Int32) (x4 : Int32) (x5 : Int32) (x6 : Int32) (σ : zS) : Option (Int32 × zS) :=
  (if (σ.1 0) ≤ x6 then
  f_M_reached_113 k7 k16 x2 x3 x4 x5 σ
  else
  (if ((zshr x2 x6) &&& 1) = 1 then
  (if ((zshr x3 x6) &&& 1) = 0 then
  zbd (f_M_nearTwo x5 x6 σ) fun r2 σ1 =>
  (if r2 = 0 then
  f_M_reached_105 k7 k16 k57 x2 x4 x5 x6 x3 0 σ1
  else
  f_M_reached_105 k7 k16 k57 x2 x4 x5 x6 x3 (zshl 1 x6) σ1)
  else
  f_M_reached_107 k7 k16 k57 x2 x3 x4 x5 x6 σ)
  else
  f_M_reached_107 k7 k16 k57 x2 x3 x4 x5 x6 σ))
set_option maxRecDepth 4000 in
theorem w_M_reached_57b {l : Launch} {d : zD} {F : zF} {h : Nat → Nat} {out : Int32 × zS} {k7 : Int32 → Int32 → Int32 → zS → Option (Int32 × zS)} {k16 : Int32 → Int32 → Int32 → Int32 → zS → Option (Int32 × zS)} {k57 : Int32 → Int32 → Int32 → Int32 → Int32 → zS → Option (Int32 × zS)} (C : zOk d F RX11 cX11_reached 7 4 93) (T : zRt d F (some .int) (some (.int out.1)) (MW d h out.2)) (H7 : ∀ (x2 : Int32) (x3 : Int32) (x4 : Int32) (σ : zS), k7 x2 x3 x4 σ = some out → V l d F 0 0 (MW d h σ) [some (.ref (h 0)), none, some (.int x2), some (.int x3), some (.int x4), none, none] 7 []) (H16 : ∀ (x2 : Int32) (x3 : Int32) (x4 : Int32) (x5 : Int32) (σ : zS), k16 x2 x3 x4 x5 σ = some out → V l d F 0 0 (MW d h σ) [some (.ref (h 0)), none, some (.int x2), some (.int x3), some (.int x4), some (.int x5), none] 16 []) (H57 : ∀ (x2 : Int32) (x3 : Int32) (x4 : Int32) (x5 : Int32) (x6 : Int32) (σ : zS), k57 x2 x3 x4 x5 x6 σ = some out → V l d F 0 0 (MW d h σ) [some (.ref (h 0)), none, some (.int x2), some (.int x3), some (.int x4), some (.int x5), some (.int x6)] 57 []) (x2 : Int32) (x3 : Int32) (x4 : Int32) (x5 : Int32) (x6 : Int32) (σ : zS) (hf : f_M_reached_57b k7 k16 k57 x2 x3 x4 x5 x6 σ = some out) : V l d F 0 0 (MW d h σ) [some (.ref (h 0)), none, some (.int x2), some (.int x3), some (.int x4), some (.int x5), some (.int x6)] 57 [] := by
  unfold f_M_reached_57b at hf
  refine zr_iload 6 59 C (by decide +kernel) rfl rfl ?_
  refine zr_aload_n 0 60 C (by decide +kernel) rfl rfl ?_
  refine mg_0_0 (idx := 143) 63 C (by decide +kernel) rfl q_991 ?_
  refine zr_icmp_ge (off := 50) 113 66 C (by decide +kernel) (by decide) rfl hf (fun hf => ?_) (fun hf => ?_)
  · refine zr_less (zA (zN (zA (zA (zA (zA (zN zE))))))) ?_
    exact w_M_reached_113 C T H7 H16 _ _ _ _ _ hf
  · refine zr_iload_n 2 67 C (by decide +kernel) rfl rfl ?_
    refine zr_iload 6 69 C (by decide +kernel) rfl rfl ?_
    refine zr_ishr 70 C (by decide +kernel) rfl ?_
    refine zr_iconst (v := 1) 1 71 C (by decide +kernel) rfl rfl ?_
    refine zr_iand 72 C (by decide +kernel) rfl ?_
    refine zr_iconst (v := 1) 1 73 C (by decide +kernel) rfl rfl ?_
    refine zr_icmp_ne (off := 34) 107 76 C (by decide +kernel) (by decide) rfl hf (fun hf => ?_) (fun hf => ?_)
    · exact w_M_reached_107 C T H7 H16 H57 _ _ _ _ _ _ hf
    · refine zr_iload_n 3 77 C (by decide +kernel) rfl rfl ?_
      refine zr_iload 6 79 C (by decide +kernel) rfl rfl ?_
      refine zr_ishr 80 C (by decide +kernel) rfl ?_
      refine zr_iconst (v := 1) 1 81 C (by decide +kernel) rfl rfl ?_
      refine zr_iand 82 C (by decide +kernel) rfl ?_
      refine zr_if_ne (off := 25) 107 85 C (by decide +kernel) (by decide) rfl hf (fun hf => ?_) (fun hf => ?_)
      · exact w_M_reached_107 C T H7 H16 H57 _ _ _ _ _ _ hf
      · refine zr_iload_n 3 86 C (by decide +kernel) rfl rfl ?_
        refine zr_aload_n 0 87 C (by decide +kernel) rfl rfl ?_
        refine zr_iload 5 89 C (by decide +kernel) rfl rfl ?_
        refine zr_iload 6 91 C (by decide +kernel) rfl rfl ?_
        refine k_M_nearTwo (idx := 238) 94 C (by decide +kernel) rfl q_1249 (zb2 rfl rfl) (Nat.le_of_ble_eq_true rfl) hf (fun r2 σ1 hf => ?_)
        refine zr_if_eq (off := 10) 104 97 C (by decide +kernel) (by decide) rfl hf (fun hf => ?_) (fun hf => ?_)
        · refine zr_iconst (v := 0) 0 105 C (by decide +kernel) rfl rfl ?_
          refine zr_less (zA (zN (zA (zN (zA (zA (zA zE))))))) ?_
          exact w_M_reached_105 C T H7 H16 H57 _ _ _ _ _ _ _ hf
        · refine zr_iconst (v := 1) 1 98 C (by decide +kernel) rfl rfl ?_
          refine zr_iload 6 100 C (by decide +kernel) rfl rfl ?_
          refine zr_ishl 101 C (by decide +kernel) rfl ?_
          refine zr_goto (off := 4) 105 C (by decide +kernel) (by decide) ?_
          refine zr_less (zA (zN (zA (zN (zA (zA (zA zE))))))) ?_
          exact w_M_reached_105 C T H7 H16 H57 _ _ _ _ _ _ _ hf
def f_M_reached_57 (k7 : Int32 → Int32 → Int32 → zS → Option (Int32 × zS)) (k16 : Int32 → Int32 → Int32 → Int32 → zS → Option (Int32 × zS)) : Nat → Int32 → Int32 → Int32 → Int32 → Int32 → zS → Option (Int32 × zS)
  | 0, _, _, _, _, _, _ => none
  | n + 1, x2, x3, x4, x5, x6,  σ => f_M_reached_57b k7 k16 (fun x2 x3 x4 x5 x6 σ => f_M_reached_57 k7 k16 n x2 x3 x4 x5 x6 σ) x2 x3 x4 x5 x6 σ
theorem w_M_reached_57 {l : Launch} {d : zD} {F : zF} {h : Nat → Nat} {out : Int32 × zS} {k7 : Int32 → Int32 → Int32 → zS → Option (Int32 × zS)} {k16 : Int32 → Int32 → Int32 → Int32 → zS → Option (Int32 × zS)} (C : zOk d F RX11 cX11_reached 7 4 93) (T : zRt d F (some .int) (some (.int out.1)) (MW d h out.2)) (H7 : ∀ (x2 : Int32) (x3 : Int32) (x4 : Int32) (σ : zS), k7 x2 x3 x4 σ = some out → V l d F 0 0 (MW d h σ) [some (.ref (h 0)), none, some (.int x2), some (.int x3), some (.int x4), none, none] 7 []) (H16 : ∀ (x2 : Int32) (x3 : Int32) (x4 : Int32) (x5 : Int32) (σ : zS), k16 x2 x3 x4 x5 σ = some out → V l d F 0 0 (MW d h σ) [some (.ref (h 0)), none, some (.int x2), some (.int x3), some (.int x4), some (.int x5), none] 16 []) : ∀ (n : Nat) (x2 : Int32) (x3 : Int32) (x4 : Int32) (x5 : Int32) (x6 : Int32) (σ : zS), f_M_reached_57 k7 k16 n x2 x3 x4 x5 x6 σ = some out → V l d F 0 0 (MW d h σ) [some (.ref (h 0)), none, some (.int x2), some (.int x3), some (.int x4), some (.int x5), some (.int x6)] 57 [] := by
  intro n
  induction n with
  | zero =>
    intro x2 x3 x4 x5 x6 σ hf
    cases hf
  | succ n ih =>
    intro x2 x3 x4 x5 x6 σ hf
    exact w_M_reached_57b C T H7 H16 ih x2 x3 x4 x5 x6 σ hf
def f_M_reached_16b (k7 : Int32 → Int32 → Int32 → zS → Option (Int32 × zS)) (k16 : Int32 → Int32 → Int32 → Int32 → zS → Option (Int32 × zS)) (x2 : Int32) (x3 : Int32) (x4 : Int32) (x5 : Int32) (σ : zS) : Option (Int32 × zS) :=
  (if (σ.1 0) ≤ x5 then
  k7 x2 x3 x4 σ
  else
  (if ((zshr x3 x5) &&& 1) = 1 then
  (if ((zshr x4 x5) &&& 1) = 0 then
  zlt (x4 ||| (zshl 1 x5)) fun v1 => 
  f_M_reached_57 k7 k16 zfu x2 x3 v1 x5 0 σ
  else
  f_M_reached_113 k7 k16 x2 x3 x4 x5 σ)
  else
  f_M_reached_113 k7 k16 x2 x3 x4 x5 σ))
set_option maxRecDepth 4000 in
theorem w_M_reached_16b {l : Launch} {d : zD} {F : zF} {h : Nat → Nat} {out : Int32 × zS} {k7 : Int32 → Int32 → Int32 → zS → Option (Int32 × zS)} {k16 : Int32 → Int32 → Int32 → Int32 → zS → Option (Int32 × zS)} (C : zOk d F RX11 cX11_reached 7 4 93) (T : zRt d F (some .int) (some (.int out.1)) (MW d h out.2)) (H7 : ∀ (x2 : Int32) (x3 : Int32) (x4 : Int32) (σ : zS), k7 x2 x3 x4 σ = some out → V l d F 0 0 (MW d h σ) [some (.ref (h 0)), none, some (.int x2), some (.int x3), some (.int x4), none, none] 7 []) (H16 : ∀ (x2 : Int32) (x3 : Int32) (x4 : Int32) (x5 : Int32) (σ : zS), k16 x2 x3 x4 x5 σ = some out → V l d F 0 0 (MW d h σ) [some (.ref (h 0)), none, some (.int x2), some (.int x3), some (.int x4), some (.int x5), none] 16 []) (x2 : Int32) (x3 : Int32) (x4 : Int32) (x5 : Int32) (σ : zS) (hf : f_M_reached_16b k7 k16 x2 x3 x4 x5 σ = some out) : V l d F 0 0 (MW d h σ) [some (.ref (h 0)), none, some (.int x2), some (.int x3), some (.int x4), some (.int x5), none] 16 [] := by
  unfold f_M_reached_16b at hf
  refine zr_iload 5 18 C (by decide +kernel) rfl rfl ?_
  refine zr_aload_n 0 19 C (by decide +kernel) rfl rfl ?_
  refine mg_0_0 (idx := 143) 22 C (by decide +kernel) rfl q_991 ?_
  refine zr_icmp_ge (off := 97) 119 25 C (by decide +kernel) (by decide) rfl hf (fun hf => ?_) (fun hf => ?_)
  · refine zr_goto (off := -112) 7 C (by decide +kernel) (by decide) ?_
    refine zr_less (zA (zN (zA (zA (zA (zN (zN zE))))))) ?_
    exact H7 _ _ _ _ hf
  · refine zr_iload_n 3 26 C (by decide +kernel) rfl rfl ?_
    refine zr_iload 5 28 C (by decide +kernel) rfl rfl ?_
    refine zr_ishr 29 C (by decide +kernel) rfl ?_
    refine zr_iconst (v := 1) 1 30 C (by decide +kernel) rfl rfl ?_
    refine zr_iand 31 C (by decide +kernel) rfl ?_
    refine zr_iconst (v := 1) 1 32 C (by decide +kernel) rfl rfl ?_
    refine zr_icmp_ne (off := 81) 113 35 C (by decide +kernel) (by decide) rfl hf (fun hf => ?_) (fun hf => ?_)
    · exact w_M_reached_113 C T H7 H16 _ _ _ _ _ hf
    · refine zr_iload 4 37 C (by decide +kernel) rfl rfl ?_
      refine zr_iload 5 39 C (by decide +kernel) rfl rfl ?_
      refine zr_ishr 40 C (by decide +kernel) rfl ?_
      refine zr_iconst (v := 1) 1 41 C (by decide +kernel) rfl rfl ?_
      refine zr_iand 42 C (by decide +kernel) rfl ?_
      refine zr_if_ne (off := 71) 113 45 C (by decide +kernel) (by decide) rfl hf (fun hf => ?_) (fun hf => ?_)
      · exact w_M_reached_113 C T H7 H16 _ _ _ _ _ hf
      · refine zr_iload 4 47 C (by decide +kernel) rfl rfl ?_
        refine zr_iconst (v := 1) 1 48 C (by decide +kernel) rfl rfl ?_
        refine zr_iload 5 50 C (by decide +kernel) rfl rfl ?_
        refine zr_ishl 51 C (by decide +kernel) rfl ?_
        refine zr_ior 52 C (by decide +kernel) rfl ?_
        refine zr_name hf (fun v1 hf => ?_)
        refine zr_istore 4 [some (.ref (h 0)), none, some (.int x2), some (.int x3), some (.int v1), some (.int x5), none] 54 C (by decide +kernel) rfl (by decide) rfl rfl ?_
        refine zr_iconst (v := 0) 0 55 C (by decide +kernel) rfl rfl ?_
        refine zr_istore 6 [some (.ref (h 0)), none, some (.int x2), some (.int x3), some (.int v1), some (.int x5), some (.int 0)] 57 C (by decide +kernel) rfl (by decide) rfl rfl ?_
        exact w_M_reached_57 C T H7 H16 zfu _ _ _ _ _ _ hf
def f_M_reached_16 (k7 : Int32 → Int32 → Int32 → zS → Option (Int32 × zS)) : Nat → Int32 → Int32 → Int32 → Int32 → zS → Option (Int32 × zS)
  | 0, _, _, _, _, _ => none
  | n + 1, x2, x3, x4, x5,  σ => f_M_reached_16b k7 (fun x2 x3 x4 x5 σ => f_M_reached_16 k7 n x2 x3 x4 x5 σ) x2 x3 x4 x5 σ
theorem w_M_reached_16 {l : Launch} {d : zD} {F : zF} {h : Nat → Nat} {out : Int32 × zS} {k7 : Int32 → Int32 → Int32 → zS → Option (Int32 × zS)} (C : zOk d F RX11 cX11_reached 7 4 93) (T : zRt d F (some .int) (some (.int out.1)) (MW d h out.2)) (H7 : ∀ (x2 : Int32) (x3 : Int32) (x4 : Int32) (σ : zS), k7 x2 x3 x4 σ = some out → V l d F 0 0 (MW d h σ) [some (.ref (h 0)), none, some (.int x2), some (.int x3), some (.int x4), none, none] 7 []) : ∀ (n : Nat) (x2 : Int32) (x3 : Int32) (x4 : Int32) (x5 : Int32) (σ : zS), f_M_reached_16 k7 n x2 x3 x4 x5 σ = some out → V l d F 0 0 (MW d h σ) [some (.ref (h 0)), none, some (.int x2), some (.int x3), some (.int x4), some (.int x5), none] 16 [] := by
  intro n
  induction n with
  | zero =>
    intro x2 x3 x4 x5 σ hf
    cases hf
  | succ n ih =>
    intro x2 x3 x4 x5 σ hf
    exact w_M_reached_16b C T H7 ih x2 x3 x4 x5 σ hf
def f_M_reached_7b (k7 : Int32 → Int32 → Int32 → zS → Option (Int32 × zS)) (x2 : Int32) (x3 : Int32) (x4 : Int32) (σ : zS) : Option (Int32 × zS) :=
  (if x3 = x4 then
  some (x3, σ)
  else
  f_M_reached_16 k7 zfu x2 x3 x4 0 σ)
set_option maxRecDepth 4000 in
theorem w_M_reached_7b {l : Launch} {d : zD} {F : zF} {h : Nat → Nat} {out : Int32 × zS} {k7 : Int32 → Int32 → Int32 → zS → Option (Int32 × zS)} (C : zOk d F RX11 cX11_reached 7 4 93) (T : zRt d F (some .int) (some (.int out.1)) (MW d h out.2)) (H7 : ∀ (x2 : Int32) (x3 : Int32) (x4 : Int32) (σ : zS), k7 x2 x3 x4 σ = some out → V l d F 0 0 (MW d h σ) [some (.ref (h 0)), none, some (.int x2), some (.int x3), some (.int x4), none, none] 7 []) (x2 : Int32) (x3 : Int32) (x4 : Int32) (σ : zS) (hf : f_M_reached_7b k7 x2 x3 x4 σ = some out) : V l d F 0 0 (MW d h σ) [some (.ref (h 0)), none, some (.int x2), some (.int x3), some (.int x4), none, none] 7 [] := by
  unfold f_M_reached_7b at hf
  refine zr_iload_n 3 8 C (by decide +kernel) rfl rfl ?_
  refine zr_iload 4 10 C (by decide +kernel) rfl rfl ?_
  refine zr_icmp_eq (off := 112) 122 13 C (by decide +kernel) (by decide) rfl hf (fun hf => ?_) (fun hf => ?_)
  · refine zr_iload_n 3 123 C (by decide +kernel) rfl rfl ?_
    obtain rfl := Option.some.inj hf
    exact zr_iret C (by decide +kernel) T
  · refine zr_iconst (v := 0) 0 14 C (by decide +kernel) rfl rfl ?_
    refine zr_istore 5 [some (.ref (h 0)), none, some (.int x2), some (.int x3), some (.int x4), some (.int 0), none] 16 C (by decide +kernel) rfl (by decide) rfl rfl ?_
    exact w_M_reached_16 C T H7 zfu _ _ _ _ _ hf
def f_M_reached_7  : Nat → Int32 → Int32 → Int32 → zS → Option (Int32 × zS)
  | 0, _, _, _, _ => none
  | n + 1, x2, x3, x4,  σ => f_M_reached_7b (fun x2 x3 x4 σ => f_M_reached_7  n x2 x3 x4 σ) x2 x3 x4 σ
theorem w_M_reached_7 {l : Launch} {d : zD} {F : zF} {h : Nat → Nat} {out : Int32 × zS}  (C : zOk d F RX11 cX11_reached 7 4 93) (T : zRt d F (some .int) (some (.int out.1)) (MW d h out.2))  : ∀ (n : Nat) (x2 : Int32) (x3 : Int32) (x4 : Int32) (σ : zS), f_M_reached_7  n x2 x3 x4 σ = some out → V l d F 0 0 (MW d h σ) [some (.ref (h 0)), none, some (.int x2), some (.int x3), some (.int x4), none, none] 7 [] := by
  intro n
  induction n with
  | zero =>
    intro x2 x3 x4 σ hf
    cases hf
  | succ n ih =>
    intro x2 x3 x4 σ hf
    exact w_M_reached_7b C T ih x2 x3 x4 σ hf
def f_M_reached (p1 : Int32) (p2 : Int32) (σ : zS) : Option (Int32 × zS) :=
  zlt (zshl 1 p1) fun v1 => 
  f_M_reached_7 zfu p2 v1 0 σ
set_option maxRecDepth 4000 in
theorem m_M_reached {l : Launch} {d : zD} {h : Nat → Nat} {out : Int32 × zS} {σ : zS} {p1 : Int32} {p2 : Int32} (hf : f_M_reached p1 p2 σ = some out) : zM l yX11_reached cX11_reached 7 (some .int) 4 93 d [.ref (h 0), .int p1, .int p2] (MW d h σ) (MW d h out.2) (some (.int out.1)) := by
  refine zM_of [some (.ref (h 0)), some (.int p1), some (.int p2), none, none, none, none] (by decide +kernel) rfl (Nat.le_of_ble_eq_true rfl) (fun F C T => ?_)
  unfold f_M_reached at hf
  refine zr_iconst (v := 1) 1 1 C (by decide +kernel) rfl rfl ?_
  refine zr_iload_n 1 2 C (by decide +kernel) rfl rfl ?_
  refine zr_ishl 3 C (by decide +kernel) rfl ?_
  refine zr_name hf (fun v1 hf => ?_)
  refine zr_istore_n 3 [some (.ref (h 0)), some (.int p1), some (.int p2), some (.int v1), none, none, none] 4 C (by decide +kernel) rfl (by decide) rfl rfl ?_
  refine zr_iconst (v := 0) 0 5 C (by decide +kernel) rfl rfl ?_
  refine zr_istore 4 [some (.ref (h 0)), some (.int p1), some (.int p2), some (.int v1), some (.int 0), none, none] 7 C (by decide +kernel) rfl (by decide) rfl rfl ?_
  refine zr_less (zA (zN (zA (zA (zA (zN (zN zE))))))) ?_
  exact w_M_reached_7 C T zfu _ _ _ _ hf
theorem y_M_reached : zY yX11_reached cX11_reached 7 (some .int) 2 := ⟨q_1293, q_90, by decide +kernel, by decide +kernel, by decide +kernel⟩
theorem k_M_reached {l : Launch} {d : zD} {F : zF} {h : Nat → Nat} {σ : zS} {lv : List (Option Value)} {pc : Nat} {own : String} {cc : ByteArray} {nL fr lo idx : Nat} {rest : List Value} {β : Type} {kf : Int32 → zS → Option β} {o2 : β} {p1 : Int32} {p2 : Int32} (pc' : Nat) (C : zOk d F own cc nL fr lo) (hd : decode cc pc = .ok (.invokevirtual idx, 3)) (hp : pc + 3 = pc') (hq : Cond.methodLink own idx yX11_reached ∈ zW) (hm : 4 + 1 ≤ fr ∧ 8 + (7 + 11) + 93 ≤ lo) (hr : (rest.map fun v => v.category).sum ≤ 8) (hf : zbd (f_M_reached p1 p2 σ) kf = some o2) (K : ∀ (r : Int32) (σ' : zS), kf r σ' = some o2 → V l d F 0 0 (MW d h σ') lv pc' (.int r :: rest)) : V l d F 0 0 (MW d h σ) lv pc (.int p2 :: .int p1 :: .ref (h 0) :: rest) := by
  obtain ⟨q, h1, h2⟩ := zbd_some hf
  exact zr_callV y_M_reached ⟨q_1292, q_53⟩ 0 rfl rfl (As := [.int p1, .int p2]) (m_M_reached h1) rfl rfl pc' C hd hp hq hm hr (K _ _ h2)
/-! StepsBeyondModel.all()I -/
def f_M_all  (σ : zS) : Option (Int32 × zS) :=
  some ((zshl 1 (σ.1 0)) - 1, σ)
set_option maxRecDepth 4000 in
theorem m_M_all {l : Launch} {d : zD} {h : Nat → Nat} {out : Int32 × zS} {σ : zS}  (hf : f_M_all  σ = some out) : zM l yX11_all cX11_all 1 (some .int) 0 0 d [.ref (h 0)] (MW d h σ) (MW d h out.2) (some (.int out.1)) := by
  refine zM_of [some (.ref (h 0))] (by decide +kernel) rfl (Nat.le_of_ble_eq_true rfl) (fun F C T => ?_)
  unfold f_M_all at hf
  refine zr_iconst (v := 1) 1 1 C (by decide +kernel) rfl rfl ?_
  refine zr_aload_n 0 2 C (by decide +kernel) rfl rfl ?_
  refine mg_0_0 (idx := 143) 5 C (by decide +kernel) rfl q_991 ?_
  refine zr_ishl 6 C (by decide +kernel) rfl ?_
  refine zr_iconst (v := 1) 1 7 C (by decide +kernel) rfl rfl ?_
  refine zr_isub 8 C (by decide +kernel) rfl ?_
  obtain rfl := Option.some.inj hf
  exact zr_iret C (by decide +kernel) T
theorem y_M_all : zY yX11_all cX11_all 1 (some .int) 0 := ⟨q_1289, q_90, by decide +kernel, by decide +kernel, by decide +kernel⟩
theorem k_M_all {l : Launch} {d : zD} {F : zF} {h : Nat → Nat} {σ : zS} {lv : List (Option Value)} {pc : Nat} {own : String} {cc : ByteArray} {nL fr lo idx : Nat} {rest : List Value} {β : Type} {kf : Int32 → zS → Option β} {o2 : β}  (pc' : Nat) (C : zOk d F own cc nL fr lo) (hd : decode cc pc = .ok (.invokevirtual idx, 3)) (hp : pc + 3 = pc') (hq : Cond.methodLink own idx yX11_all ∈ zW) (hm : 0 + 1 ≤ fr ∧ 8 + (1 + 11) + 0 ≤ lo) (hr : (rest.map fun v => v.category).sum ≤ 8) (hf : zbd (f_M_all  σ) kf = some o2) (K : ∀ (r : Int32) (σ' : zS), kf r σ' = some o2 → V l d F 0 0 (MW d h σ') lv pc' (.int r :: rest)) : V l d F 0 0 (MW d h σ) lv pc (.ref (h 0) :: rest) := by
  obtain ⟨q, h1, h2⟩ := zbd_some hf
  exact zr_callV y_M_all ⟨q_1288, q_52⟩ 0 rfl rfl (As := []) (m_M_all h1) rfl rfl pc' C hd hp hq hm hr (K _ _ h2)
/-! StepsBeyondModel.townOf(I)I -/
def f_M_townOf (p1 : Int32) (σ : zS) : Option (Int32 × zS) :=
  zbd (f_M_all  σ) fun r2 σ1 =>
  zbd (f_M_reached p1 r2 σ1) fun r4 σ3 =>
  some (r4, σ3)
set_option maxRecDepth 4000 in
theorem m_M_townOf {l : Launch} {d : zD} {h : Nat → Nat} {out : Int32 × zS} {σ : zS} {p1 : Int32} (hf : f_M_townOf p1 σ = some out) : zM l yX11_townOf cX11_townOf 2 (some .int) 5 119 d [.ref (h 0), .int p1] (MW d h σ) (MW d h out.2) (some (.int out.1)) := by
  refine zM_of [some (.ref (h 0)), some (.int p1)] (by decide +kernel) rfl (Nat.le_of_ble_eq_true rfl) (fun F C T => ?_)
  unfold f_M_townOf at hf
  refine zr_aload_n 0 1 C (by decide +kernel) rfl rfl ?_
  refine zr_iload_n 1 2 C (by decide +kernel) rfl rfl ?_
  refine zr_aload_n 0 3 C (by decide +kernel) rfl rfl ?_
  refine k_M_all (idx := 245) 6 C (by decide +kernel) rfl q_1286 (zb2 rfl rfl) (Nat.le_of_ble_eq_true rfl) hf (fun r2 σ1 hf => ?_)
  refine k_M_reached (idx := 248) 9 C (by decide +kernel) rfl q_1290 (zb2 rfl rfl) (Nat.le_of_ble_eq_true rfl) hf (fun r4 σ3 hf => ?_)
  obtain rfl := Option.some.inj hf
  exact zr_iret C (by decide +kernel) T
theorem y_M_townOf : zY yX11_townOf cX11_townOf 2 (some .int) 1 := ⟨q_1285, q_90, by decide +kernel, by decide +kernel, by decide +kernel⟩
theorem k_M_townOf {l : Launch} {d : zD} {F : zF} {h : Nat → Nat} {σ : zS} {lv : List (Option Value)} {pc : Nat} {own : String} {cc : ByteArray} {nL fr lo idx : Nat} {rest : List Value} {β : Type} {kf : Int32 → zS → Option β} {o2 : β} {p1 : Int32} (pc' : Nat) (C : zOk d F own cc nL fr lo) (hd : decode cc pc = .ok (.invokevirtual idx, 3)) (hp : pc + 3 = pc') (hq : Cond.methodLink own idx yX11_townOf ∈ zW) (hm : 5 + 1 ≤ fr ∧ 8 + (2 + 11) + 119 ≤ lo) (hr : (rest.map fun v => v.category).sum ≤ 8) (hf : zbd (f_M_townOf p1 σ) kf = some o2) (K : ∀ (r : Int32) (σ' : zS), kf r σ' = some o2 → V l d F 0 0 (MW d h σ') lv pc' (.int r :: rest)) : V l d F 0 0 (MW d h σ) lv pc (.int p1 :: .ref (h 0) :: rest) := by
  obtain ⟨q, h1, h2⟩ := zbd_some hf
  exact zr_callV y_M_townOf ⟨q_1284, q_51⟩ 0 rfl rfl (As := [.int p1]) (m_M_townOf h1) rfl rfl pc' C hd hp hq hm hr (K _ _ h2)
/-! StepsBeyondModel.town(I)I -/
def f_M_town (p1 : Int32) (σ : zS) : Option (Int32 × zS) :=
  zbd (f_M_isHouse p1 σ) fun r2 σ1 =>
  (if r2 = 0 then
  some (-1, σ1)
  else
  zbd (f_M_townOf p1 σ1) fun r4 σ3 =>
  some (r4, σ3))
set_option maxRecDepth 4000 in
theorem m_M_town {l : Launch} {d : zD} {h : Nat → Nat} {out : Int32 × zS} {σ : zS} {p1 : Int32} (hf : f_M_town p1 σ = some out) : zM l yX11_town cX11_town 2 (some .int) 6 140 d [.ref (h 0), .int p1] (MW d h σ) (MW d h out.2) (some (.int out.1)) := by
  refine zM_of [some (.ref (h 0)), some (.int p1)] (by decide +kernel) rfl (Nat.le_of_ble_eq_true rfl) (fun F C T => ?_)
  unfold f_M_town at hf
  refine zr_aload_n 0 1 C (by decide +kernel) rfl rfl ?_
  refine zr_iload_n 1 2 C (by decide +kernel) rfl rfl ?_
  refine k_M_isHouse (idx := 154) 5 C (by decide +kernel) rfl q_1188 (zb2 rfl rfl) (Nat.le_of_ble_eq_true rfl) hf (fun r2 σ1 hf => ?_)
  refine zr_if_eq (off := 11) 16 8 C (by decide +kernel) (by decide) rfl hf (fun hf => ?_) (fun hf => ?_)
  · refine zr_iconst (v := (-1)) (-1) 17 C (by decide +kernel) rfl rfl ?_
    obtain rfl := Option.some.inj hf
    exact zr_iret C (by decide +kernel) T
  · refine zr_aload_n 0 9 C (by decide +kernel) rfl rfl ?_
    refine zr_iload_n 1 10 C (by decide +kernel) rfl rfl ?_
    refine k_M_townOf (idx := 251) 13 C (by decide +kernel) rfl q_1282 (zb2 rfl rfl) (Nat.le_of_ble_eq_true rfl) hf (fun r4 σ3 hf => ?_)
    refine zr_goto (off := 4) 17 C (by decide +kernel) (by decide) ?_
    obtain rfl := Option.some.inj hf
    exact zr_iret C (by decide +kernel) T
theorem y_M_town : zY yX11_town cX11_town 2 (some .int) 1 := ⟨q_1281, q_90, by decide +kernel, by decide +kernel, by decide +kernel⟩
theorem k_M_town {l : Launch} {d : zD} {F : zF} {h : Nat → Nat} {σ : zS} {lv : List (Option Value)} {pc : Nat} {own : String} {cc : ByteArray} {nL fr lo idx : Nat} {rest : List Value} {β : Type} {kf : Int32 → zS → Option β} {o2 : β} {p1 : Int32} (pc' : Nat) (C : zOk d F own cc nL fr lo) (hd : decode cc pc = .ok (.invokevirtual idx, 3)) (hp : pc + 3 = pc') (hq : Cond.methodLink own idx yX11_town ∈ zW) (hm : 6 + 1 ≤ fr ∧ 8 + (2 + 11) + 140 ≤ lo) (hr : (rest.map fun v => v.category).sum ≤ 8) (hf : zbd (f_M_town p1 σ) kf = some o2) (K : ∀ (r : Int32) (σ' : zS), kf r σ' = some o2 → V l d F 0 0 (MW d h σ') lv pc' (.int r :: rest)) : V l d F 0 0 (MW d h σ) lv pc (.int p1 :: .ref (h 0) :: rest) := by
  obtain ⟨q, h1, h2⟩ := zbd_some hf
  exact zr_callV y_M_town ⟨q_1279, q_1280⟩ 0 rfl rfl (As := [.int p1]) (m_M_town h1) rfl rfl pc' C hd hp hq hm hr (K _ _ h2)
/-! StepsBeyondModel.lowBit(I)I -/
def f_M_lowBit_2b (k2 : Int32 → Int32 → zS → Option (Int32 × zS)) (x0 : Int32) (x1 : Int32) (σ : zS) : Option (Int32 × zS) :=
  (if ((zshr x0 x1) &&& 1) = 0 then
  k2 x0 (x1 + 1) σ
  else
  some (x1, σ))
set_option maxRecDepth 4000 in
theorem w_M_lowBit_2b {l : Launch} {d : zD} {F : zF} {h : Nat → Nat} {out : Int32 × zS} {k2 : Int32 → Int32 → zS → Option (Int32 × zS)} (C : zOk d F RX11 cX11_lowBit 2 0 0) (T : zRt d F (some .int) (some (.int out.1)) (MW d h out.2)) (H2 : ∀ (x0 : Int32) (x1 : Int32) (σ : zS), k2 x0 x1 σ = some out → V l d F 0 0 (MW d h σ) [some (.int x0), some (.int x1)] 2 []) (x0 : Int32) (x1 : Int32) (σ : zS) (hf : f_M_lowBit_2b k2 x0 x1 σ = some out) : V l d F 0 0 (MW d h σ) [some (.int x0), some (.int x1)] 2 [] := by
  unfold f_M_lowBit_2b at hf
  refine zr_iload_n 0 3 C (by decide +kernel) rfl rfl ?_
  refine zr_iload_n 1 4 C (by decide +kernel) rfl rfl ?_
  refine zr_ishr 5 C (by decide +kernel) rfl ?_
  refine zr_iconst (v := 1) 1 6 C (by decide +kernel) rfl rfl ?_
  refine zr_iand 7 C (by decide +kernel) rfl ?_
  refine zr_if_ne (off := 9) 16 10 C (by decide +kernel) (by decide) rfl hf (fun hf => ?_) (fun hf => ?_)
  · refine zr_iload_n 1 17 C (by decide +kernel) rfl rfl ?_
    obtain rfl := Option.some.inj hf
    exact zr_iret C (by decide +kernel) T
  · refine zr_iinc (j := 1) 1 [some (.int x0), some (.int (x1 + 1))] 13 C (by decide +kernel) rfl rfl rfl (by decide) rfl rfl ?_
    refine zr_goto (off := -11) 2 C (by decide +kernel) (by decide) ?_
    exact H2 _ _ _ hf
def f_M_lowBit_2  : Nat → Int32 → Int32 → zS → Option (Int32 × zS)
  | 0, _, _, _ => none
  | n + 1, x0, x1,  σ => f_M_lowBit_2b (fun x0 x1 σ => f_M_lowBit_2  n x0 x1 σ) x0 x1 σ
theorem w_M_lowBit_2 {l : Launch} {d : zD} {F : zF} {h : Nat → Nat} {out : Int32 × zS}  (C : zOk d F RX11 cX11_lowBit 2 0 0) (T : zRt d F (some .int) (some (.int out.1)) (MW d h out.2))  : ∀ (n : Nat) (x0 : Int32) (x1 : Int32) (σ : zS), f_M_lowBit_2  n x0 x1 σ = some out → V l d F 0 0 (MW d h σ) [some (.int x0), some (.int x1)] 2 [] := by
  intro n
  induction n with
  | zero =>
    intro x0 x1 σ hf
    cases hf
  | succ n ih =>
    intro x0 x1 σ hf
    exact w_M_lowBit_2b C T ih x0 x1 σ hf
def f_M_lowBit (p0 : Int32) (σ : zS) : Option (Int32 × zS) :=
  f_M_lowBit_2 zfu p0 0 σ
set_option maxRecDepth 4000 in
theorem m_M_lowBit {l : Launch} {d : zD} {h : Nat → Nat} {out : Int32 × zS} {σ : zS} {p0 : Int32} (hf : f_M_lowBit p0 σ = some out) : zM l yX11_lowBit cX11_lowBit 2 (some .int) 0 0 d [.int p0] (MW d h σ) (MW d h out.2) (some (.int out.1)) := by
  refine zM_of [some (.int p0), none] (by decide +kernel) rfl (Nat.le_of_ble_eq_true rfl) (fun F C T => ?_)
  unfold f_M_lowBit at hf
  refine zr_iconst (v := 0) 0 1 C (by decide +kernel) rfl rfl ?_
  refine zr_istore_n 1 [some (.int p0), some (.int 0)] 2 C (by decide +kernel) rfl (by decide) rfl rfl ?_
  exact w_M_lowBit_2 C T zfu _ _ _ hf
theorem y_M_lowBit : zY yX11_lowBit cX11_lowBit 2 (some .int) 1 := ⟨q_1300, q_90, by decide +kernel, by decide +kernel, by decide +kernel⟩
theorem k_M_lowBit {l : Launch} {d : zD} {F : zF} {h : Nat → Nat} {σ : zS} {lv : List (Option Value)} {pc : Nat} {own : String} {cc : ByteArray} {nL fr lo idx : Nat} {rest : List Value} {β : Type} {kf : Int32 → zS → Option β} {o2 : β} {p0 : Int32} (pc' : Nat) (C : zOk d F own cc nL fr lo) (hd : decode cc pc = .ok (.invokestatic idx, 3)) (hp : pc + 3 = pc') (hq : Cond.methodLink own idx yX11_lowBit ∈ zW) (hm : 0 + 1 ≤ fr ∧ 8 + (2 + 11) + 0 ≤ lo) (hr : (rest.map fun v => v.category).sum ≤ 8) (hf : zbd (f_M_lowBit p0 σ) kf = some o2) (K : ∀ (r : Int32) (σ' : zS), kf r σ' = some o2 → V l d F 0 0 (MW d h σ') lv pc' (.int r :: rest)) : V l d F 0 0 (MW d h σ) lv pc (.int p0 :: rest) := by
  obtain ⟨q, h1, h2⟩ := zbd_some hf
  exact zr_callS y_M_lowBit q_1299 (As := [.int p0]) (m_M_lowBit h1) rfl rfl pc' C hd hp hq hm hr (K _ _ h2)
/-! StepsBeyondModel.burn(I)I -/
def f_M_burn_82 (k21 : Int32 → Int32 → Int32 → zS → Option (Int32 × zS)) (x2 : Int32) (x3 : Int32) (x4 : Int32) (σ : zS) : Option (Int32 × zS) :=
  k21 x2 x3 (x4 + 1) σ
set_option maxRecDepth 4000 in
theorem w_M_burn_82 {l : Launch} {d : zD} {F : zF} {h : Nat → Nat} {out : Int32 × zS} {k21 : Int32 → Int32 → Int32 → zS → Option (Int32 × zS)} (C : zOk d F RX11 cX11_burn 6 6 140) (T : zRt d F (some .int) (some (.int out.1)) (MW d h out.2)) (H21 : ∀ (x2 : Int32) (x3 : Int32) (x4 : Int32) (σ : zS), k21 x2 x3 x4 σ = some out → V l d F 0 0 (MW d h σ) [some (.ref (h 0)), none, some (.int x2), some (.int x3), some (.int x4), none] 21 []) (x2 : Int32) (x3 : Int32) (x4 : Int32) (σ : zS) (hf : f_M_burn_82 k21 x2 x3 x4 σ = some out) : V l d F 0 0 (MW d h σ) [some (.ref (h 0)), none, some (.int x2), some (.int x3), some (.int x4), none] 82 [] := by
  unfold f_M_burn_82 at hf
  refine zr_iinc (j := 1) 4 [some (.ref (h 0)), none, some (.int x2), some (.int x3), some (.int (x4 + 1)), none] 85 C (by decide +kernel) rfl rfl rfl (by decide) rfl rfl ?_
  refine zr_goto (off := -64) 21 C (by decide +kernel) (by decide) ?_
  exact H21 _ _ _ _ hf
def f_M_burn_80 (k21 : Int32 → Int32 → Int32 → zS → Option (Int32 × zS)) (x2 : Int32) (x4 : Int32) (y0 : Int32) (y1 : Int32) (σ : zS) : Option (Int32 × zS) :=
  zlt (y0 ||| y1) fun v1 => 
  f_M_burn_82 k21 x2 v1 x4 σ
set_option maxRecDepth 4000 in
theorem w_M_burn_80 {l : Launch} {d : zD} {F : zF} {h : Nat → Nat} {out : Int32 × zS} {k21 : Int32 → Int32 → Int32 → zS → Option (Int32 × zS)} (C : zOk d F RX11 cX11_burn 6 6 140) (T : zRt d F (some .int) (some (.int out.1)) (MW d h out.2)) (H21 : ∀ (x2 : Int32) (x3 : Int32) (x4 : Int32) (σ : zS), k21 x2 x3 x4 σ = some out → V l d F 0 0 (MW d h σ) [some (.ref (h 0)), none, some (.int x2), some (.int x3), some (.int x4), none] 21 []) (x2 : Int32) (x4 : Int32) (y0 : Int32) (y1 : Int32) (σ : zS) (hf : f_M_burn_80 k21 x2 x4 y0 y1 σ = some out) : V l d F 0 0 (MW d h σ) [some (.ref (h 0)), none, some (.int x2), none, some (.int x4), none] 80 [.int y1, .int y0] := by
  unfold f_M_burn_80 at hf
  refine zr_ior 81 C (by decide +kernel) rfl ?_
  refine zr_name hf (fun v1 hf => ?_)
  refine zr_istore_n 3 [some (.ref (h 0)), none, some (.int x2), some (.int v1), some (.int x4), none] 82 C (by decide +kernel) rfl (by decide) rfl rfl ?_
  exact w_M_burn_82 C T H21 _ _ _ _ hf
def f_M_burn_21b (k21 : Int32 → Int32 → Int32 → zS → Option (Int32 × zS)) (x2 : Int32) (x3 : Int32) (x4 : Int32) (σ : zS) : Option (Int32 × zS) :=
  (if (σ.1 0) ≤ x4 then
  some (x3, σ)
  else
  zlt (x2 &&& ((zshl 1 x4) ^^^ (-1))) fun v1 => 
  (if ((zshr x2 x4) &&& 1) = 1 then
  (if v1 = 0 then
  f_M_burn_82 k21 x2 x3 x4 σ
  else
  zbd (f_M_lowBit v1 σ) fun r3 σ2 =>
  zbd (f_M_reached r3 v1 σ2) fun r5 σ4 =>
  (if r5 = v1 then
  f_M_burn_80 k21 x2 x4 x3 0 σ4
  else
  f_M_burn_80 k21 x2 x4 x3 (zshl 1 x4) σ4))
  else
  f_M_burn_82 k21 x2 x3 x4 σ))
set_option maxRecDepth 4000 in
theorem w_M_burn_21b {l : Launch} {d : zD} {F : zF} {h : Nat → Nat} {out : Int32 × zS} {k21 : Int32 → Int32 → Int32 → zS → Option (Int32 × zS)} (C : zOk d F RX11 cX11_burn 6 6 140) (T : zRt d F (some .int) (some (.int out.1)) (MW d h out.2)) (H21 : ∀ (x2 : Int32) (x3 : Int32) (x4 : Int32) (σ : zS), k21 x2 x3 x4 σ = some out → V l d F 0 0 (MW d h σ) [some (.ref (h 0)), none, some (.int x2), some (.int x3), some (.int x4), none] 21 []) (x2 : Int32) (x3 : Int32) (x4 : Int32) (σ : zS) (hf : f_M_burn_21b k21 x2 x3 x4 σ = some out) : V l d F 0 0 (MW d h σ) [some (.ref (h 0)), none, some (.int x2), some (.int x3), some (.int x4), none] 21 [] := by
  unfold f_M_burn_21b at hf
  refine zr_iload 4 23 C (by decide +kernel) rfl rfl ?_
  refine zr_aload_n 0 24 C (by decide +kernel) rfl rfl ?_
  refine mg_0_0 (idx := 143) 27 C (by decide +kernel) rfl q_991 ?_
  refine zr_icmp_ge (off := 61) 88 30 C (by decide +kernel) (by decide) rfl hf (fun hf => ?_) (fun hf => ?_)
  · refine zr_iload_n 3 89 C (by decide +kernel) rfl rfl ?_
    obtain rfl := Option.some.inj hf
    exact zr_iret C (by decide +kernel) T
  · refine zr_iload_n 2 31 C (by decide +kernel) rfl rfl ?_
    refine zr_iconst (v := 1) 1 32 C (by decide +kernel) rfl rfl ?_
    refine zr_iload 4 34 C (by decide +kernel) rfl rfl ?_
    refine zr_ishl 35 C (by decide +kernel) rfl ?_
    refine zr_iconst (v := (-1)) (-1) 36 C (by decide +kernel) rfl rfl ?_
    refine zr_ixor 37 C (by decide +kernel) rfl ?_
    refine zr_iand 38 C (by decide +kernel) rfl ?_
    refine zr_name hf (fun v1 hf => ?_)
    refine zr_istore 5 [some (.ref (h 0)), none, some (.int x2), some (.int x3), some (.int x4), some (.int v1)] 40 C (by decide +kernel) rfl (by decide) rfl rfl ?_
    refine zr_iload_n 2 41 C (by decide +kernel) rfl rfl ?_
    refine zr_iload 4 43 C (by decide +kernel) rfl rfl ?_
    refine zr_ishr 44 C (by decide +kernel) rfl ?_
    refine zr_iconst (v := 1) 1 45 C (by decide +kernel) rfl rfl ?_
    refine zr_iand 46 C (by decide +kernel) rfl ?_
    refine zr_iconst (v := 1) 1 47 C (by decide +kernel) rfl rfl ?_
    refine zr_icmp_ne (off := 35) 82 50 C (by decide +kernel) (by decide) rfl hf (fun hf => ?_) (fun hf => ?_)
    · refine zr_less (zA (zN (zA (zA (zA (zN zE)))))) ?_
      exact w_M_burn_82 C T H21 _ _ _ _ hf
    · refine zr_iload 5 52 C (by decide +kernel) rfl rfl ?_
      refine zr_if_eq (off := 30) 82 55 C (by decide +kernel) (by decide) rfl hf (fun hf => ?_) (fun hf => ?_)
      · refine zr_less (zA (zN (zA (zA (zA (zN zE)))))) ?_
        exact w_M_burn_82 C T H21 _ _ _ _ hf
      · refine zr_iload_n 3 56 C (by decide +kernel) rfl rfl ?_
        refine zr_aload_n 0 57 C (by decide +kernel) rfl rfl ?_
        refine zr_iload 5 59 C (by decide +kernel) rfl rfl ?_
        refine k_M_lowBit (idx := 254) 62 C (by decide +kernel) rfl q_1298 (zb2 rfl rfl) (Nat.le_of_ble_eq_true rfl) hf (fun r3 σ2 hf => ?_)
        refine zr_iload 5 64 C (by decide +kernel) rfl rfl ?_
        refine k_M_reached (idx := 248) 67 C (by decide +kernel) rfl q_1290 (zb2 rfl rfl) (Nat.le_of_ble_eq_true rfl) hf (fun r5 σ4 hf => ?_)
        refine zr_iload 5 69 C (by decide +kernel) rfl rfl ?_
        refine zr_icmp_eq (off := 10) 79 72 C (by decide +kernel) (by decide) rfl hf (fun hf => ?_) (fun hf => ?_)
        · refine zr_iconst (v := 0) 0 80 C (by decide +kernel) rfl rfl ?_
          refine zr_less (zA (zN (zA (zN (zA (zN zE)))))) ?_
          exact w_M_burn_80 C T H21 _ _ _ _ _ hf
        · refine zr_iconst (v := 1) 1 73 C (by decide +kernel) rfl rfl ?_
          refine zr_iload 4 75 C (by decide +kernel) rfl rfl ?_
          refine zr_ishl 76 C (by decide +kernel) rfl ?_
          refine zr_goto (off := 4) 80 C (by decide +kernel) (by decide) ?_
          refine zr_less (zA (zN (zA (zN (zA (zN zE)))))) ?_
          exact w_M_burn_80 C T H21 _ _ _ _ _ hf
def f_M_burn_21  : Nat → Int32 → Int32 → Int32 → zS → Option (Int32 × zS)
  | 0, _, _, _, _ => none
  | n + 1, x2, x3, x4,  σ => f_M_burn_21b (fun x2 x3 x4 σ => f_M_burn_21  n x2 x3 x4 σ) x2 x3 x4 σ
theorem w_M_burn_21 {l : Launch} {d : zD} {F : zF} {h : Nat → Nat} {out : Int32 × zS}  (C : zOk d F RX11 cX11_burn 6 6 140) (T : zRt d F (some .int) (some (.int out.1)) (MW d h out.2))  : ∀ (n : Nat) (x2 : Int32) (x3 : Int32) (x4 : Int32) (σ : zS), f_M_burn_21  n x2 x3 x4 σ = some out → V l d F 0 0 (MW d h σ) [some (.ref (h 0)), none, some (.int x2), some (.int x3), some (.int x4), none] 21 [] := by
  intro n
  induction n with
  | zero =>
    intro x2 x3 x4 σ hf
    cases hf
  | succ n ih =>
    intro x2 x3 x4 σ hf
    exact w_M_burn_21b C T ih x2 x3 x4 σ hf
def f_M_burn (p1 : Int32) (σ : zS) : Option (Int32 × zS) :=
  zbd (f_M_isHouse p1 σ) fun r2 σ1 =>
  (if r2 = 0 then
  some (-1, σ1)
  else
  zbd (f_M_townOf p1 σ1) fun r4 σ3 =>
  f_M_burn_21 zfu r4 0 0 σ3)
set_option maxRecDepth 4000 in
theorem m_M_burn {l : Launch} {d : zD} {h : Nat → Nat} {out : Int32 × zS} {σ : zS} {p1 : Int32} (hf : f_M_burn p1 σ = some out) : zM l yX11_burn cX11_burn 6 (some .int) 6 140 d [.ref (h 0), .int p1] (MW d h σ) (MW d h out.2) (some (.int out.1)) := by
  refine zM_of [some (.ref (h 0)), some (.int p1), none, none, none, none] (by decide +kernel) rfl (Nat.le_of_ble_eq_true rfl) (fun F C T => ?_)
  unfold f_M_burn at hf
  refine zr_aload_n 0 1 C (by decide +kernel) rfl rfl ?_
  refine zr_iload_n 1 2 C (by decide +kernel) rfl rfl ?_
  refine k_M_isHouse (idx := 154) 5 C (by decide +kernel) rfl q_1188 (zb2 rfl rfl) (Nat.le_of_ble_eq_true rfl) hf (fun r2 σ1 hf => ?_)
  refine zr_if_ne (off := 5) 10 8 C (by decide +kernel) (by decide) rfl hf (fun hf => ?_) (fun hf => ?_)
  · refine zr_aload_n 0 11 C (by decide +kernel) rfl rfl ?_
    refine zr_iload_n 1 12 C (by decide +kernel) rfl rfl ?_
    refine k_M_townOf (idx := 251) 15 C (by decide +kernel) rfl q_1282 (zb2 rfl rfl) (Nat.le_of_ble_eq_true rfl) hf (fun r4 σ3 hf => ?_)
    refine zr_istore_n 2 [some (.ref (h 0)), some (.int p1), some (.int r4), none, none, none] 16 C (by decide +kernel) rfl (by decide) rfl rfl ?_
    refine zr_iconst (v := 0) 0 17 C (by decide +kernel) rfl rfl ?_
    refine zr_istore_n 3 [some (.ref (h 0)), some (.int p1), some (.int r4), some (.int 0), none, none] 18 C (by decide +kernel) rfl (by decide) rfl rfl ?_
    refine zr_iconst (v := 0) 0 19 C (by decide +kernel) rfl rfl ?_
    refine zr_istore 4 [some (.ref (h 0)), some (.int p1), some (.int r4), some (.int 0), some (.int 0), none] 21 C (by decide +kernel) rfl (by decide) rfl rfl ?_
    refine zr_less (zA (zN (zA (zA (zA (zN zE)))))) ?_
    exact w_M_burn_21 C T zfu _ _ _ _ hf
  · refine zr_iconst (v := (-1)) (-1) 9 C (by decide +kernel) rfl rfl ?_
    obtain rfl := Option.some.inj hf
    exact zr_iret C (by decide +kernel) T
theorem y_M_burn : zY yX11_burn cX11_burn 6 (some .int) 1 := ⟨q_1297, q_90, by decide +kernel, by decide +kernel, by decide +kernel⟩
theorem k_M_burn {l : Launch} {d : zD} {F : zF} {h : Nat → Nat} {σ : zS} {lv : List (Option Value)} {pc : Nat} {own : String} {cc : ByteArray} {nL fr lo idx : Nat} {rest : List Value} {β : Type} {kf : Int32 → zS → Option β} {o2 : β} {p1 : Int32} (pc' : Nat) (C : zOk d F own cc nL fr lo) (hd : decode cc pc = .ok (.invokevirtual idx, 3)) (hp : pc + 3 = pc') (hq : Cond.methodLink own idx yX11_burn ∈ zW) (hm : 6 + 1 ≤ fr ∧ 8 + (6 + 11) + 140 ≤ lo) (hr : (rest.map fun v => v.category).sum ≤ 8) (hf : zbd (f_M_burn p1 σ) kf = some o2) (K : ∀ (r : Int32) (σ' : zS), kf r σ' = some o2 → V l d F 0 0 (MW d h σ') lv pc' (.int r :: rest)) : V l d F 0 0 (MW d h σ) lv pc (.int p1 :: .ref (h 0) :: rest) := by
  obtain ⟨q, h1, h2⟩ := zbd_some hf
  exact zr_callV y_M_burn ⟨q_1295, q_1296⟩ 0 rfl rfl (As := [.int p1]) (m_M_burn h1) rfl rfl pc' C hd hp hq hm hr (K _ _ h2)
/-! StepsBeyondModel.shape(III)I -/
def f_M_shape (p1 : Int32) (p2 : Int32) (p3 : Int32) (σ : zS) : Option (Int32 × zS) :=
  zbd (f_M_in p1 0 5 σ) fun r2 σ1 =>
  (if r2 = 0 then
  some (-2, σ1)
  else
  zbd (f_M_in p3 0 30 σ1) fun r4 σ3 =>
  (if r4 = 0 then
  some (-2, σ3)
  else
  zbd (f_M_isHouse p2 σ3) fun r6 σ5 =>
  (if r6 = 0 then
  some (-1, σ5)
  else
  (if (σ5.1 3) = 12 then
  some (-4, σ5)
  else
  zin (σ5.1 3) 12 (zlt (zsa σ5 3 (σ5.1 3) p1) fun σ7 =>
  zin (σ7.1 3) 12 (zlt (zsa σ7 4 (σ7.1 3) p2) fun σ8 =>
  zin (σ8.1 3) 12 (zlt (zsa σ8 5 (σ8.1 3) p3) fun σ9 =>
  zlt (zsg σ9 3 ((σ9.1 3) + 1)) fun σ10 =>
  some ((σ10.1 3) - 1, σ10))))))))
set_option maxRecDepth 4000 in
theorem m_M_shape {l : Launch} {d : zD} {h : Nat → Nat} {out : Int32 × zS} {σ : zS} {p1 : Int32} {p2 : Int32} {p3 : Int32} (hf : f_M_shape p1 p2 p3 σ = some out) : zM l yX11_shape cX11_shape 4 (some .int) 2 43 d [.ref (h 0), .int p1, .int p2, .int p3] (MW d h σ) (MW d h out.2) (some (.int out.1)) := by
  refine zM_of [some (.ref (h 0)), some (.int p1), some (.int p2), some (.int p3)] (by decide +kernel) rfl (Nat.le_of_ble_eq_true rfl) (fun F C T => ?_)
  unfold f_M_shape at hf
  refine zr_iload_n 1 1 C (by decide +kernel) rfl rfl ?_
  refine zr_iconst (v := 0) 0 2 C (by decide +kernel) rfl rfl ?_
  refine zr_iconst (v := 5) 5 3 C (by decide +kernel) rfl rfl ?_
  refine k_M_in (idx := 139) 6 C (by decide +kernel) rfl q_1181 (zb2 rfl rfl) (Nat.le_of_ble_eq_true rfl) hf (fun r2 σ1 hf => ?_)
  refine zr_if_eq (off := 13) 19 9 C (by decide +kernel) (by decide) rfl hf (fun hf => ?_) (fun hf => ?_)
  · refine zr_bipush (v := (-2)) (-2) 21 C (by decide +kernel) rfl rfl ?_
    obtain rfl := Option.some.inj hf
    exact zr_iret C (by decide +kernel) T
  · refine zr_iload_n 3 10 C (by decide +kernel) rfl rfl ?_
    refine zr_iconst (v := 0) 0 11 C (by decide +kernel) rfl rfl ?_
    refine zr_bipush (v := 30) 30 13 C (by decide +kernel) rfl rfl ?_
    refine k_M_in (idx := 139) 16 C (by decide +kernel) rfl q_1181 (zb2 rfl rfl) (Nat.le_of_ble_eq_true rfl) hf (fun r4 σ3 hf => ?_)
    refine zr_if_ne (off := 6) 22 19 C (by decide +kernel) (by decide) rfl hf (fun hf => ?_) (fun hf => ?_)
    · refine zr_aload_n 0 23 C (by decide +kernel) rfl rfl ?_
      refine zr_iload_n 2 24 C (by decide +kernel) rfl rfl ?_
      refine k_M_isHouse (idx := 154) 27 C (by decide +kernel) rfl q_1188 (zb2 rfl rfl) (Nat.le_of_ble_eq_true rfl) hf (fun r6 σ5 hf => ?_)
      refine zr_if_ne (off := 5) 32 30 C (by decide +kernel) (by decide) rfl hf (fun hf => ?_) (fun hf => ?_)
      · refine zr_aload_n 0 33 C (by decide +kernel) rfl rfl ?_
        refine mg_0_3 (idx := 257) 36 C (by decide +kernel) rfl q_994 ?_
        refine zr_bipush (v := 12) 12 38 C (by decide +kernel) rfl rfl ?_
        refine zr_icmp_ne (off := 6) 44 41 C (by decide +kernel) (by decide) rfl hf (fun hf => ?_) (fun hf => ?_)
        · refine zr_aload_n 0 45 C (by decide +kernel) rfl rfl ?_
          refine mg_0_4 (idx := 16) 48 C (by decide +kernel) rfl q_995 ?_
          refine zr_aload_n 0 49 C (by decide +kernel) rfl rfl ?_
          refine mg_0_3 (idx := 257) 52 C (by decide +kernel) rfl q_994 ?_
          refine zr_iload_n 1 53 C (by decide +kernel) rfl rfl ?_
          refine ms_3 54 C (by decide +kernel) rfl hf (fun σ7 hf => ?_)
          refine zr_aload_n 0 55 C (by decide +kernel) rfl rfl ?_
          refine mg_0_5 (idx := 19) 58 C (by decide +kernel) rfl q_996 ?_
          refine zr_aload_n 0 59 C (by decide +kernel) rfl rfl ?_
          refine mg_0_3 (idx := 257) 62 C (by decide +kernel) rfl q_994 ?_
          refine zr_iload_n 2 63 C (by decide +kernel) rfl rfl ?_
          refine ms_4 64 C (by decide +kernel) rfl hf (fun σ8 hf => ?_)
          refine zr_aload_n 0 65 C (by decide +kernel) rfl rfl ?_
          refine mg_0_6 (idx := 22) 68 C (by decide +kernel) rfl q_997 ?_
          refine zr_aload_n 0 69 C (by decide +kernel) rfl rfl ?_
          refine mg_0_3 (idx := 257) 72 C (by decide +kernel) rfl q_994 ?_
          refine zr_iload_n 3 73 C (by decide +kernel) rfl rfl ?_
          refine ms_5 74 C (by decide +kernel) rfl hf (fun σ9 hf => ?_)
          refine zr_aload_n 0 75 C (by decide +kernel) rfl rfl ?_
          refine zr_dup 76 C (by decide +kernel) rfl rfl ?_
          refine mg_0_3 (idx := 257) 79 C (by decide +kernel) rfl q_994 ?_
          refine zr_iconst (v := 1) 1 80 C (by decide +kernel) rfl rfl ?_
          refine zr_iadd 81 C (by decide +kernel) rfl ?_
          refine mp_0_3 (idx := 257) 84 C (by decide +kernel) rfl q_994 hf (fun σ10 hf => ?_)
          refine zr_aload_n 0 85 C (by decide +kernel) rfl rfl ?_
          refine mg_0_3 (idx := 257) 88 C (by decide +kernel) rfl q_994 ?_
          refine zr_iconst (v := 1) 1 89 C (by decide +kernel) rfl rfl ?_
          refine zr_isub 90 C (by decide +kernel) rfl ?_
          obtain rfl := Option.some.inj hf
          exact zr_iret C (by decide +kernel) T
        · refine zr_bipush (v := (-4)) (-4) 43 C (by decide +kernel) rfl rfl ?_
          obtain rfl := Option.some.inj hf
          exact zr_iret C (by decide +kernel) T
      · refine zr_iconst (v := (-1)) (-1) 31 C (by decide +kernel) rfl rfl ?_
        obtain rfl := Option.some.inj hf
        exact zr_iret C (by decide +kernel) T
    · refine zr_bipush (v := (-2)) (-2) 21 C (by decide +kernel) rfl rfl ?_
      obtain rfl := Option.some.inj hf
      exact zr_iret C (by decide +kernel) T
theorem y_M_shape : zY yX11_shape cX11_shape 4 (some .int) 3 := ⟨q_1304, q_90, by decide +kernel, by decide +kernel, by decide +kernel⟩
theorem k_M_shape {l : Launch} {d : zD} {F : zF} {h : Nat → Nat} {σ : zS} {lv : List (Option Value)} {pc : Nat} {own : String} {cc : ByteArray} {nL fr lo idx : Nat} {rest : List Value} {β : Type} {kf : Int32 → zS → Option β} {o2 : β} {p1 : Int32} {p2 : Int32} {p3 : Int32} (pc' : Nat) (C : zOk d F own cc nL fr lo) (hd : decode cc pc = .ok (.invokevirtual idx, 3)) (hp : pc + 3 = pc') (hq : Cond.methodLink own idx yX11_shape ∈ zW) (hm : 2 + 1 ≤ fr ∧ 8 + (4 + 11) + 43 ≤ lo) (hr : (rest.map fun v => v.category).sum ≤ 8) (hf : zbd (f_M_shape p1 p2 p3 σ) kf = some o2) (K : ∀ (r : Int32) (σ' : zS), kf r σ' = some o2 → V l d F 0 0 (MW d h σ') lv pc' (.int r :: rest)) : V l d F 0 0 (MW d h σ) lv pc (.int p3 :: .int p2 :: .int p1 :: .ref (h 0) :: rest) := by
  obtain ⟨q, h1, h2⟩ := zbd_some hf
  exact zr_callV y_M_shape ⟨q_1302, q_1303⟩ 0 rfl rfl (As := [.int p1, .int p2, .int p3]) (m_M_shape h1) rfl rfl pc' C hd hp hq hm hr (K _ _ h2)
/-! StepsBeyondModel.isShape(I)Z -/
def f_M_isShape (p1 : Int32) (σ : zS) : Option (Int32 × zS) :=
  zbd (f_M_in p1 0 ((σ.1 3) - 1) σ) fun r2 σ1 =>
  zbo r2 (some (r2, σ1))
set_option maxRecDepth 4000 in
theorem m_M_isShape {l : Launch} {d : zD} {h : Nat → Nat} {out : Int32 × zS} {σ : zS} {p1 : Int32} (hf : f_M_isShape p1 σ = some out) : zM l yX11_isShape cX11_isShape 2 (some .boolean) 1 22 d [.ref (h 0), .int p1] (MW d h σ) (MW d h out.2) (some (.int out.1)) := by
  refine zM_of [some (.ref (h 0)), some (.int p1)] (by decide +kernel) rfl (Nat.le_of_ble_eq_true rfl) (fun F C T => ?_)
  unfold f_M_isShape at hf
  refine zr_iload_n 1 1 C (by decide +kernel) rfl rfl ?_
  refine zr_iconst (v := 0) 0 2 C (by decide +kernel) rfl rfl ?_
  refine zr_aload_n 0 3 C (by decide +kernel) rfl rfl ?_
  refine mg_0_3 (idx := 257) 6 C (by decide +kernel) rfl q_994 ?_
  refine zr_iconst (v := 1) 1 7 C (by decide +kernel) rfl rfl ?_
  refine zr_isub 8 C (by decide +kernel) rfl ?_
  refine k_M_in (idx := 139) 11 C (by decide +kernel) rfl q_1181 (zb2 rfl rfl) (Nat.le_of_ble_eq_true rfl) hf (fun r2 σ1 hf => ?_)
  obtain ⟨hz, hf⟩ := zbo_some hf
  obtain rfl := Option.some.inj hf
  exact zr_zret C (by decide +kernel) hz T
theorem y_M_isShape : zY yX11_isShape cX11_isShape 2 (some .boolean) 1 := ⟨q_1316, q_90, by decide +kernel, by decide +kernel, by decide +kernel⟩
theorem k_M_isShape {l : Launch} {d : zD} {F : zF} {h : Nat → Nat} {σ : zS} {lv : List (Option Value)} {pc : Nat} {own : String} {cc : ByteArray} {nL fr lo idx : Nat} {rest : List Value} {β : Type} {kf : Int32 → zS → Option β} {o2 : β} {p1 : Int32} (pc' : Nat) (C : zOk d F own cc nL fr lo) (hd : decode cc pc = .ok (.invokevirtual idx, 3)) (hp : pc + 3 = pc') (hq : Cond.methodLink own idx yX11_isShape ∈ zW) (hm : 1 + 1 ≤ fr ∧ 8 + (2 + 11) + 22 ≤ lo) (hr : (rest.map fun v => v.category).sum ≤ 8) (hf : zbd (f_M_isShape p1 σ) kf = some o2) (K : ∀ (r : Int32) (σ' : zS), kf r σ' = some o2 → V l d F 0 0 (MW d h σ') lv pc' (.int r :: rest)) : V l d F 0 0 (MW d h σ) lv pc (.int p1 :: .ref (h 0) :: rest) := by
  obtain ⟨q, h1, h2⟩ := zbd_some hf
  exact zr_callV y_M_isShape ⟨q_1315, q_54⟩ 0 rfl rfl (As := [.int p1]) (m_M_isShape h1) rfl rfl pc' C hd hp hq hm hr (K _ _ h2)
end
section
/-! StepsBeyondModel.loaf(I)I -/
def f_M_loaf (p1 : Int32) (σ : zS) : Option (Int32 × zS) :=
  zbd (f_M_isPlace p1 σ) fun r2 σ1 =>
  (if r2 = 0 then
  some (-2, σ1)
  else
  zlt (σ1.1 7) fun v3 => 
  zlt (zsg σ1 7 p1) fun σ4 =>
  some (v3, σ4))
set_option maxRecDepth 4000 in
theorem m_M_loaf {l : Launch} {d : zD} {h : Nat → Nat} {out : Int32 × zS} {σ : zS} {p1 : Int32} (hf : f_M_loaf p1 σ = some out) : zM l yX11_loaf cX11_loaf 3 (some .int) 2 42 d [.ref (h 0), .int p1] (MW d h σ) (MW d h out.2) (some (.int out.1)) := by
  refine zM_of [some (.ref (h 0)), some (.int p1), none] (by decide +kernel) rfl (Nat.le_of_ble_eq_true rfl) (fun F C T => ?_)
  unfold f_M_loaf at hf
  refine zr_iload_n 1 1 C (by decide +kernel) rfl rfl ?_
  refine k_M_isPlace (idx := 150) 4 C (by decide +kernel) rfl q_1178 (zb2 rfl rfl) (Nat.le_of_ble_eq_true rfl) hf (fun r2 σ1 hf => ?_)
  refine zr_if_ne (off := 6) 10 7 C (by decide +kernel) (by decide) rfl hf (fun hf => ?_) (fun hf => ?_)
  · refine zr_aload_n 0 11 C (by decide +kernel) rfl rfl ?_
    refine mg_0_7 (idx := 260) 14 C (by decide +kernel) rfl q_998 ?_
    refine zr_name hf (fun v3 hf => ?_)
    refine zr_istore_n 2 [some (.ref (h 0)), some (.int p1), some (.int v3)] 15 C (by decide +kernel) rfl (by decide) rfl rfl ?_
    refine zr_aload_n 0 16 C (by decide +kernel) rfl rfl ?_
    refine zr_iload_n 1 17 C (by decide +kernel) rfl rfl ?_
    refine mp_0_7 (idx := 260) 20 C (by decide +kernel) rfl q_998 hf (fun σ4 hf => ?_)
    refine zr_iload_n 2 21 C (by decide +kernel) rfl rfl ?_
    obtain rfl := Option.some.inj hf
    exact zr_iret C (by decide +kernel) T
  · refine zr_bipush (v := (-2)) (-2) 9 C (by decide +kernel) rfl rfl ?_
    obtain rfl := Option.some.inj hf
    exact zr_iret C (by decide +kernel) T
theorem y_M_loaf : zY yX11_loaf cX11_loaf 3 (some .int) 1 := ⟨q_1308, q_90, by decide +kernel, by decide +kernel, by decide +kernel⟩
theorem k_M_loaf {l : Launch} {d : zD} {F : zF} {h : Nat → Nat} {σ : zS} {lv : List (Option Value)} {pc : Nat} {own : String} {cc : ByteArray} {nL fr lo idx : Nat} {rest : List Value} {β : Type} {kf : Int32 → zS → Option β} {o2 : β} {p1 : Int32} (pc' : Nat) (C : zOk d F own cc nL fr lo) (hd : decode cc pc = .ok (.invokevirtual idx, 3)) (hp : pc + 3 = pc') (hq : Cond.methodLink own idx yX11_loaf ∈ zW) (hm : 2 + 1 ≤ fr ∧ 8 + (3 + 11) + 42 ≤ lo) (hr : (rest.map fun v => v.category).sum ≤ 8) (hf : zbd (f_M_loaf p1 σ) kf = some o2) (K : ∀ (r : Int32) (σ' : zS), kf r σ' = some o2 → V l d F 0 0 (MW d h σ') lv pc' (.int r :: rest)) : V l d F 0 0 (MW d h σ) lv pc (.int p1 :: .ref (h 0) :: rest) := by
  obtain ⟨q, h1, h2⟩ := zbd_some hf
  exact zr_callV y_M_loaf ⟨q_1306, q_1307⟩ 0 rfl rfl (As := [.int p1]) (m_M_loaf h1) rfl rfl pc' C hd hp hq hm hr (K _ _ h2)
/-! StepsBeyondModel.reach(I)I -/
def f_M_reach_27  (x1 : Int32) (x2 : Int32) (σ : zS) : Option (Int32 × zS) :=
  zin x1 12 ((if (σ.2 3 x1.toNatClampNeg) = 3 then
  some (x2 / 2, σ)
  else
  zin x1 12 ((if (σ.2 3 x1.toNatClampNeg) = 4 then
  zbd (f_M_farBy 0 σ) fun r2 σ1 =>
  some (x2 + r2, σ1)
  else
  (if 0 ≤ x2 then
  some (x2, σ)
  else
  some (0, σ))))))
set_option maxRecDepth 4000 in
theorem w_M_reach_27 {l : Launch} {d : zD} {F : zF} {h : Nat → Nat} {out : Int32 × zS}  (C : zOk d F RX11 cX11_reach 3 3 68) (T : zRt d F (some .int) (some (.int out.1)) (MW d h out.2))  (x1 : Int32) (x2 : Int32) (σ : zS) (hf : f_M_reach_27  x1 x2 σ = some out) : V l d F 0 0 (MW d h σ) [some (.ref (h 0)), some (.int x1), some (.int x2)] 27 [] := by
  unfold f_M_reach_27 at hf
  refine zr_aload_n 0 28 C (by decide +kernel) rfl rfl ?_
  refine mg_0_4 (idx := 16) 31 C (by decide +kernel) rfl q_995 ?_
  refine zr_iload_n 1 32 C (by decide +kernel) rfl rfl ?_
  refine ml_3 33 C (by decide +kernel) rfl hf (fun hf => ?_)
  refine zr_iconst (v := 3) 3 34 C (by decide +kernel) rfl rfl ?_
  refine zr_icmp_ne (off := 9) 43 37 C (by decide +kernel) (by decide) rfl hf (fun hf => ?_) (fun hf => ?_)
  · refine zr_aload_n 0 44 C (by decide +kernel) rfl rfl ?_
    refine mg_0_4 (idx := 16) 47 C (by decide +kernel) rfl q_995 ?_
    refine zr_iload_n 1 48 C (by decide +kernel) rfl rfl ?_
    refine ml_3 49 C (by decide +kernel) rfl hf (fun hf => ?_)
    refine zr_iconst (v := 4) 4 50 C (by decide +kernel) rfl rfl ?_
    refine zr_icmp_ne (off := 13) 63 53 C (by decide +kernel) (by decide) rfl hf (fun hf => ?_) (fun hf => ?_)
    · refine zr_iload_n 2 64 C (by decide +kernel) rfl rfl ?_
      refine zr_if_ge (off := 7) 71 67 C (by decide +kernel) (by decide) rfl hf (fun hf => ?_) (fun hf => ?_)
      · refine zr_iload_n 2 72 C (by decide +kernel) rfl rfl ?_
        obtain rfl := Option.some.inj hf
        exact zr_iret C (by decide +kernel) T
      · refine zr_iconst (v := 0) 0 68 C (by decide +kernel) rfl rfl ?_
        refine zr_goto (off := 4) 72 C (by decide +kernel) (by decide) ?_
        obtain rfl := Option.some.inj hf
        exact zr_iret C (by decide +kernel) T
    · refine zr_iload_n 2 54 C (by decide +kernel) rfl rfl ?_
      refine zr_aload_n 0 55 C (by decide +kernel) rfl rfl ?_
      refine zr_iconst (v := 0) 0 56 C (by decide +kernel) rfl rfl ?_
      refine k_M_farBy (idx := 242) 59 C (by decide +kernel) rfl q_1274 (zb2 rfl rfl) (Nat.le_of_ble_eq_true rfl) hf (fun r2 σ1 hf => ?_)
      refine zr_iadd 60 C (by decide +kernel) rfl ?_
      refine zr_goto (off := 12) 72 C (by decide +kernel) (by decide) ?_
      obtain rfl := Option.some.inj hf
      exact zr_iret C (by decide +kernel) T
  · refine zr_iload_n 2 38 C (by decide +kernel) rfl rfl ?_
    refine zr_iconst (v := 2) 2 39 C (by decide +kernel) rfl rfl ?_
    refine zr_idiv 40 C (by decide +kernel) rfl (by decide) ?_
    refine zr_goto (off := 32) 72 C (by decide +kernel) (by decide) ?_
    obtain rfl := Option.some.inj hf
    exact zr_iret C (by decide +kernel) T
def f_M_reach (p1 : Int32) (σ : zS) : Option (Int32 × zS) :=
  zin p1 12 (zlt (σ.2 5 p1.toNatClampNeg) fun v1 => 
  zin p1 12 ((if (σ.2 3 p1.toNatClampNeg) = 5 then
  zbd (f_M_farBy 1 σ) fun r3 σ2 =>
  zlt (v1 + (r3 - 1)) fun v4 => 
  f_M_reach_27 p1 v4 σ2
  else
  f_M_reach_27 p1 v1 σ)))
set_option maxRecDepth 4000 in
theorem m_M_reach {l : Launch} {d : zD} {h : Nat → Nat} {out : Int32 × zS} {σ : zS} {p1 : Int32} (hf : f_M_reach p1 σ = some out) : zM l yX11_reach cX11_reach 3 (some .int) 3 68 d [.ref (h 0), .int p1] (MW d h σ) (MW d h out.2) (some (.int out.1)) := by
  refine zM_of [some (.ref (h 0)), some (.int p1), none] (by decide +kernel) rfl (Nat.le_of_ble_eq_true rfl) (fun F C T => ?_)
  unfold f_M_reach at hf
  refine zr_aload_n 0 1 C (by decide +kernel) rfl rfl ?_
  refine mg_0_6 (idx := 22) 4 C (by decide +kernel) rfl q_997 ?_
  refine zr_iload_n 1 5 C (by decide +kernel) rfl rfl ?_
  refine ml_5 6 C (by decide +kernel) rfl hf (fun hf => ?_)
  refine zr_name hf (fun v1 hf => ?_)
  refine zr_istore_n 2 [some (.ref (h 0)), some (.int p1), some (.int v1)] 7 C (by decide +kernel) rfl (by decide) rfl rfl ?_
  refine zr_aload_n 0 8 C (by decide +kernel) rfl rfl ?_
  refine mg_0_4 (idx := 16) 11 C (by decide +kernel) rfl q_995 ?_
  refine zr_iload_n 1 12 C (by decide +kernel) rfl rfl ?_
  refine ml_3 13 C (by decide +kernel) rfl hf (fun hf => ?_)
  refine zr_iconst (v := 5) 5 14 C (by decide +kernel) rfl rfl ?_
  refine zr_icmp_ne (off := 13) 27 17 C (by decide +kernel) (by decide) rfl hf (fun hf => ?_) (fun hf => ?_)
  · exact w_M_reach_27 C T _ _ _ hf
  · refine zr_iload_n 2 18 C (by decide +kernel) rfl rfl ?_
    refine zr_aload_n 0 19 C (by decide +kernel) rfl rfl ?_
    refine zr_iconst (v := 1) 1 20 C (by decide +kernel) rfl rfl ?_
    refine k_M_farBy (idx := 242) 23 C (by decide +kernel) rfl q_1274 (zb2 rfl rfl) (Nat.le_of_ble_eq_true rfl) hf (fun r3 σ2 hf => ?_)
    refine zr_iconst (v := 1) 1 24 C (by decide +kernel) rfl rfl ?_
    refine zr_isub 25 C (by decide +kernel) rfl ?_
    refine zr_iadd 26 C (by decide +kernel) rfl ?_
    refine zr_name hf (fun v4 hf => ?_)
    refine zr_istore_n 2 [some (.ref (h 0)), some (.int p1), some (.int v4)] 27 C (by decide +kernel) rfl (by decide) rfl rfl ?_
    exact w_M_reach_27 C T _ _ _ hf
theorem y_M_reach : zY yX11_reach cX11_reach 3 (some .int) 1 := ⟨q_1320, q_90, by decide +kernel, by decide +kernel, by decide +kernel⟩
theorem k_M_reach {l : Launch} {d : zD} {F : zF} {h : Nat → Nat} {σ : zS} {lv : List (Option Value)} {pc : Nat} {own : String} {cc : ByteArray} {nL fr lo idx : Nat} {rest : List Value} {β : Type} {kf : Int32 → zS → Option β} {o2 : β} {p1 : Int32} (pc' : Nat) (C : zOk d F own cc nL fr lo) (hd : decode cc pc = .ok (.invokevirtual idx, 3)) (hp : pc + 3 = pc') (hq : Cond.methodLink own idx yX11_reach ∈ zW) (hm : 3 + 1 ≤ fr ∧ 8 + (3 + 11) + 68 ≤ lo) (hr : (rest.map fun v => v.category).sum ≤ 8) (hf : zbd (f_M_reach p1 σ) kf = some o2) (K : ∀ (r : Int32) (σ' : zS), kf r σ' = some o2 → V l d F 0 0 (MW d h σ') lv pc' (.int r :: rest)) : V l d F 0 0 (MW d h σ) lv pc (.int p1 :: .ref (h 0) :: rest) := by
  obtain ⟨q, h1, h2⟩ := zbd_some hf
  exact zr_callV y_M_reach ⟨q_1319, q_55⟩ 0 rfl rfl (As := [.int p1]) (m_M_reach h1) rfl rfl pc' C hd hp hq hm hr (K _ _ h2)
/-! StepsBeyondModel.middle(I)I -/
def f_M_middle (p1 : Int32) (σ : zS) : Option (Int32 × zS) :=
  zin p1 12 ((if (σ.2 3 p1.toNatClampNeg) = 5 then
  some (σ.1 7, σ)
  else
  zin p1 12 (zin (σ.2 4 p1.toNatClampNeg) 20 (some (σ.2 1 (σ.2 4 p1.toNatClampNeg).toNatClampNeg, σ)))))
set_option maxRecDepth 4000 in
theorem m_M_middle {l : Launch} {d : zD} {h : Nat → Nat} {out : Int32 × zS} {σ : zS} {p1 : Int32} (hf : f_M_middle p1 σ = some out) : zM l yX11_middle cX11_middle 2 (some .int) 0 0 d [.ref (h 0), .int p1] (MW d h σ) (MW d h out.2) (some (.int out.1)) := by
  refine zM_of [some (.ref (h 0)), some (.int p1)] (by decide +kernel) rfl (Nat.le_of_ble_eq_true rfl) (fun F C T => ?_)
  unfold f_M_middle at hf
  refine zr_aload_n 0 1 C (by decide +kernel) rfl rfl ?_
  refine mg_0_4 (idx := 16) 4 C (by decide +kernel) rfl q_995 ?_
  refine zr_iload_n 1 5 C (by decide +kernel) rfl rfl ?_
  refine ml_3 6 C (by decide +kernel) rfl hf (fun hf => ?_)
  refine zr_iconst (v := 5) 5 7 C (by decide +kernel) rfl rfl ?_
  refine zr_icmp_ne (off := 10) 17 10 C (by decide +kernel) (by decide) rfl hf (fun hf => ?_) (fun hf => ?_)
  · refine zr_aload_n 0 18 C (by decide +kernel) rfl rfl ?_
    refine mg_0_1 (idx := 7) 21 C (by decide +kernel) rfl q_992 ?_
    refine zr_aload_n 0 22 C (by decide +kernel) rfl rfl ?_
    refine mg_0_5 (idx := 19) 25 C (by decide +kernel) rfl q_996 ?_
    refine zr_iload_n 1 26 C (by decide +kernel) rfl rfl ?_
    refine ml_4 27 C (by decide +kernel) rfl hf (fun hf => ?_)
    refine ml_1 28 C (by decide +kernel) rfl hf (fun hf => ?_)
    obtain rfl := Option.some.inj hf
    exact zr_iret C (by decide +kernel) T
  · refine zr_aload_n 0 11 C (by decide +kernel) rfl rfl ?_
    refine mg_0_7 (idx := 260) 14 C (by decide +kernel) rfl q_998 ?_
    refine zr_goto (off := 14) 28 C (by decide +kernel) (by decide) ?_
    obtain rfl := Option.some.inj hf
    exact zr_iret C (by decide +kernel) T
theorem y_M_middle : zY yX11_middle cX11_middle 2 (some .int) 1 := ⟨q_1324, q_90, by decide +kernel, by decide +kernel, by decide +kernel⟩
theorem k_M_middle {l : Launch} {d : zD} {F : zF} {h : Nat → Nat} {σ : zS} {lv : List (Option Value)} {pc : Nat} {own : String} {cc : ByteArray} {nL fr lo idx : Nat} {rest : List Value} {β : Type} {kf : Int32 → zS → Option β} {o2 : β} {p1 : Int32} (pc' : Nat) (C : zOk d F own cc nL fr lo) (hd : decode cc pc = .ok (.invokevirtual idx, 3)) (hp : pc + 3 = pc') (hq : Cond.methodLink own idx yX11_middle ∈ zW) (hm : 0 + 1 ≤ fr ∧ 8 + (2 + 11) + 0 ≤ lo) (hr : (rest.map fun v => v.category).sum ≤ 8) (hf : zbd (f_M_middle p1 σ) kf = some o2) (K : ∀ (r : Int32) (σ' : zS), kf r σ' = some o2 → V l d F 0 0 (MW d h σ') lv pc' (.int r :: rest)) : V l d F 0 0 (MW d h σ) lv pc (.int p1 :: .ref (h 0) :: rest) := by
  obtain ⟨q, h1, h2⟩ := zbd_some hf
  exact zr_callV y_M_middle ⟨q_1323, q_56⟩ 0 rfl rfl (As := [.int p1]) (m_M_middle h1) rfl rfl pc' C hd hp hq hm hr (K _ _ h2)
/-! StepsBeyondModel.shapeTold(II)I -/
def f_M_shapeTold (p1 : Int32) (p2 : Int32) (σ : zS) : Option (Int32 × zS) :=
  zbd (f_M_isShape p1 σ) fun r2 σ1 =>
  (if r2 = 0 then
  some (-5, σ1)
  else
  (if p2 = 0 then
  zin p1 12 (some (σ1.2 3 p1.toNatClampNeg, σ1))
  else
  (if p2 = 1 then
  zin p1 12 (some (σ1.2 4 p1.toNatClampNeg, σ1))
  else
  (if p2 = 2 then
  zin p1 12 (some (σ1.2 5 p1.toNatClampNeg, σ1))
  else
  (if p2 = 3 then
  zbd (f_M_reach p1 σ1) fun r4 σ3 =>
  some (r4, σ3)
  else
  (if p2 = 4 then
  zbd (f_M_middle p1 σ1) fun r6 σ5 =>
  some (r6, σ5)
  else
  some (-7, σ1)))))))
set_option maxRecDepth 4000 in
theorem m_M_shapeTold {l : Launch} {d : zD} {h : Nat → Nat} {out : Int32 × zS} {σ : zS} {p1 : Int32} {p2 : Int32} (hf : f_M_shapeTold p1 p2 σ = some out) : zM l yX11_shapeTold cX11_shapeTold 3 (some .int) 4 90 d [.ref (h 0), .int p1, .int p2] (MW d h σ) (MW d h out.2) (some (.int out.1)) := by
  refine zM_of [some (.ref (h 0)), some (.int p1), some (.int p2)] (by decide +kernel) rfl (Nat.le_of_ble_eq_true rfl) (fun F C T => ?_)
  unfold f_M_shapeTold at hf
  refine zr_aload_n 0 1 C (by decide +kernel) rfl rfl ?_
  refine zr_iload_n 1 2 C (by decide +kernel) rfl rfl ?_
  refine k_M_isShape (idx := 263) 5 C (by decide +kernel) rfl q_1313 (zb2 rfl rfl) (Nat.le_of_ble_eq_true rfl) hf (fun r2 σ1 hf => ?_)
  refine zr_if_ne (off := 6) 11 8 C (by decide +kernel) (by decide) rfl hf (fun hf => ?_) (fun hf => ?_)
  · refine zr_iload_n 2 12 C (by decide +kernel) rfl rfl ?_
    refine zr_tcase (dflt := 69) (lw := 0) (hi := 4) (offs := #[36, 43, 50, 57, 63]) (len := 36) (off := 36) (j := 0) 0 48 C (by decide +kernel) (by decide) (by decide) rfl (by decide) hf (fun hf => ?_) (fun hn0 hf => ?_)
    · refine zr_aload_n 0 49 C (by decide +kernel) rfl rfl ?_
      refine mg_0_4 (idx := 16) 52 C (by decide +kernel) rfl q_995 ?_
      refine zr_iload_n 1 53 C (by decide +kernel) rfl rfl ?_
      refine ml_3 54 C (by decide +kernel) rfl hf (fun hf => ?_)
      obtain rfl := Option.some.inj hf
      exact zr_iret C (by decide +kernel) T
    refine zr_tcase (dflt := 69) (lw := 0) (hi := 4) (offs := #[36, 43, 50, 57, 63]) (len := 36) (off := 43) (j := 1) 1 55 C (by decide +kernel) (by decide) (by decide) rfl (by decide) hf (fun hf => ?_) (fun hn1 hf => ?_)
    · refine zr_aload_n 0 56 C (by decide +kernel) rfl rfl ?_
      refine mg_0_5 (idx := 19) 59 C (by decide +kernel) rfl q_996 ?_
      refine zr_iload_n 1 60 C (by decide +kernel) rfl rfl ?_
      refine ml_4 61 C (by decide +kernel) rfl hf (fun hf => ?_)
      obtain rfl := Option.some.inj hf
      exact zr_iret C (by decide +kernel) T
    refine zr_tcase (dflt := 69) (lw := 0) (hi := 4) (offs := #[36, 43, 50, 57, 63]) (len := 36) (off := 50) (j := 2) 2 62 C (by decide +kernel) (by decide) (by decide) rfl (by decide) hf (fun hf => ?_) (fun hn2 hf => ?_)
    · refine zr_aload_n 0 63 C (by decide +kernel) rfl rfl ?_
      refine mg_0_6 (idx := 22) 66 C (by decide +kernel) rfl q_997 ?_
      refine zr_iload_n 1 67 C (by decide +kernel) rfl rfl ?_
      refine ml_5 68 C (by decide +kernel) rfl hf (fun hf => ?_)
      obtain rfl := Option.some.inj hf
      exact zr_iret C (by decide +kernel) T
    refine zr_tcase (dflt := 69) (lw := 0) (hi := 4) (offs := #[36, 43, 50, 57, 63]) (len := 36) (off := 57) (j := 3) 3 69 C (by decide +kernel) (by decide) (by decide) rfl (by decide) hf (fun hf => ?_) (fun hn3 hf => ?_)
    · refine zr_aload_n 0 70 C (by decide +kernel) rfl rfl ?_
      refine zr_iload_n 1 71 C (by decide +kernel) rfl rfl ?_
      refine k_M_reach (idx := 266) 74 C (by decide +kernel) rfl q_1317 (zb2 rfl rfl) (Nat.le_of_ble_eq_true rfl) hf (fun r4 σ3 hf => ?_)
      obtain rfl := Option.some.inj hf
      exact zr_iret C (by decide +kernel) T
    refine zr_tcase (dflt := 69) (lw := 0) (hi := 4) (offs := #[36, 43, 50, 57, 63]) (len := 36) (off := 63) (j := 4) 4 75 C (by decide +kernel) (by decide) (by decide) rfl (by decide) hf (fun hf => ?_) (fun hn4 hf => ?_)
    · refine zr_aload_n 0 76 C (by decide +kernel) rfl rfl ?_
      refine zr_iload_n 1 77 C (by decide +kernel) rfl rfl ?_
      refine k_M_middle (idx := 269) 80 C (by decide +kernel) rfl q_1321 (zb2 rfl rfl) (Nat.le_of_ble_eq_true rfl) hf (fun r6 σ5 hf => ?_)
      obtain rfl := Option.some.inj hf
      exact zr_iret C (by decide +kernel) T
    refine zr_tdflt (dflt := 69) (lw := 0) (hi := 4) (offs := #[36, 43, 50, 57, 63]) (len := 36) 81 C (by decide +kernel) (by decide) (by decide) (fun j hj hx => ?_) ?_
    · rcases (show j = 0 ∨ j = 1 ∨ j = 2 ∨ j = 3 ∨ j = 4 by have hj2 : j < 5 := hj; omega) with rfl | rfl | rfl | rfl | rfl
      · exact absurd (z_ti (c := 0) (by decide) hx) hn0
      · exact absurd (z_ti (c := 1) (by decide) hx) hn1
      · exact absurd (z_ti (c := 2) (by decide) hx) hn2
      · exact absurd (z_ti (c := 3) (by decide) hx) hn3
      · exact absurd (z_ti (c := 4) (by decide) hx) hn4
    refine zr_bipush (v := (-7)) (-7) 83 C (by decide +kernel) rfl rfl ?_
    obtain rfl := Option.some.inj hf
    exact zr_iret C (by decide +kernel) T
  · refine zr_bipush (v := (-5)) (-5) 10 C (by decide +kernel) rfl rfl ?_
    obtain rfl := Option.some.inj hf
    exact zr_iret C (by decide +kernel) T
theorem y_M_shapeTold : zY yX11_shapeTold cX11_shapeTold 3 (some .int) 2 := ⟨q_1312, q_90, by decide +kernel, by decide +kernel, by decide +kernel⟩
theorem k_M_shapeTold {l : Launch} {d : zD} {F : zF} {h : Nat → Nat} {σ : zS} {lv : List (Option Value)} {pc : Nat} {own : String} {cc : ByteArray} {nL fr lo idx : Nat} {rest : List Value} {β : Type} {kf : Int32 → zS → Option β} {o2 : β} {p1 : Int32} {p2 : Int32} (pc' : Nat) (C : zOk d F own cc nL fr lo) (hd : decode cc pc = .ok (.invokevirtual idx, 3)) (hp : pc + 3 = pc') (hq : Cond.methodLink own idx yX11_shapeTold ∈ zW) (hm : 4 + 1 ≤ fr ∧ 8 + (3 + 11) + 90 ≤ lo) (hr : (rest.map fun v => v.category).sum ≤ 8) (hf : zbd (f_M_shapeTold p1 p2 σ) kf = some o2) (K : ∀ (r : Int32) (σ' : zS), kf r σ' = some o2 → V l d F 0 0 (MW d h σ') lv pc' (.int r :: rest)) : V l d F 0 0 (MW d h σ) lv pc (.int p2 :: .int p1 :: .ref (h 0) :: rest) := by
  obtain ⟨q, h1, h2⟩ := zbd_some hf
  exact zr_callV y_M_shapeTold ⟨q_1310, q_1311⟩ 0 rfl rfl (As := [.int p1, .int p2]) (m_M_shapeTold h1) rfl rfl pc' C hd hp hq hm hr (K _ _ h2)
/-! StepsBeyondModel.spans(I)V -/
def f_M_spans_87  (y1 : Int32) (σ : zS) : Option (Int32 × zS) :=
  zlt (zsg σ 51 y1) fun σ1 =>
  some (0, σ1)
set_option maxRecDepth 4000 in
theorem w_M_spans_87 {l : Launch} {d : zD} {F : zF} {h : Nat → Nat} {out : Int32 × zS}  (C : zOk d F RX11 cX11_spans 4 0 0) (T : zRt d F none none (MW d h out.2))  (y1 : Int32) (σ : zS) (hf : f_M_spans_87  y1 σ = some out) : V l d F 0 0 (MW d h σ) [none, none, none, none] 87 [.int y1, .ref (h 0)] := by
  unfold f_M_spans_87 at hf
  refine mp_0_51 (idx := 281) 90 C (by decide +kernel) rfl q_1042 hf (fun σ1 hf => ?_)
  obtain rfl := Option.some.inj hf
  exact zr_vret C (by decide +kernel) T
def f_M_spans_67  (x3 : Int32) (y1 : Int32) (σ : zS) : Option (Int32 × zS) :=
  zlt (zsg σ 50 y1) fun σ1 =>
  (if x3 ≤ (σ1.1 51) then
  f_M_spans_87 (σ1.1 51) σ1
  else
  f_M_spans_87 x3 σ1)
set_option maxRecDepth 4000 in
theorem w_M_spans_67 {l : Launch} {d : zD} {F : zF} {h : Nat → Nat} {out : Int32 × zS}  (C : zOk d F RX11 cX11_spans 4 0 0) (T : zRt d F none none (MW d h out.2))  (x3 : Int32) (y1 : Int32) (σ : zS) (hf : f_M_spans_67  x3 y1 σ = some out) : V l d F 0 0 (MW d h σ) [some (.ref (h 0)), none, none, some (.int x3)] 67 [.int y1, .ref (h 0)] := by
  unfold f_M_spans_67 at hf
  refine mp_0_50 (idx := 278) 70 C (by decide +kernel) rfl q_1041 hf (fun σ1 hf => ?_)
  refine zr_aload_n 0 71 C (by decide +kernel) rfl rfl ?_
  refine zr_iload_n 3 72 C (by decide +kernel) rfl rfl ?_
  refine zr_aload_n 0 73 C (by decide +kernel) rfl rfl ?_
  refine mg_0_51 (idx := 281) 76 C (by decide +kernel) rfl q_1042 ?_
  refine zr_icmp_le (off := 7) 83 79 C (by decide +kernel) (by decide) rfl hf (fun hf => ?_) (fun hf => ?_)
  · refine zr_aload_n 0 84 C (by decide +kernel) rfl rfl ?_
    refine mg_0_51 (idx := 281) 87 C (by decide +kernel) rfl q_1042 ?_
    refine zr_less (zN (zN (zN (zN zE)))) ?_
    exact w_M_spans_87 C T _ _ hf
  · refine zr_iload_n 3 80 C (by decide +kernel) rfl rfl ?_
    refine zr_goto (off := 7) 87 C (by decide +kernel) (by decide) ?_
    refine zr_less (zN (zN (zN (zN zE)))) ?_
    exact w_M_spans_87 C T _ _ hf
def f_M_spans_47  (x3 : Int32) (y1 : Int32) (σ : zS) : Option (Int32 × zS) :=
  zlt (zsg σ 49 y1) fun σ1 =>
  (if (σ1.1 50) ≤ x3 then
  f_M_spans_67 x3 (σ1.1 50) σ1
  else
  f_M_spans_67 x3 x3 σ1)
set_option maxRecDepth 4000 in
theorem w_M_spans_47 {l : Launch} {d : zD} {F : zF} {h : Nat → Nat} {out : Int32 × zS}  (C : zOk d F RX11 cX11_spans 4 0 0) (T : zRt d F none none (MW d h out.2))  (x3 : Int32) (y1 : Int32) (σ : zS) (hf : f_M_spans_47  x3 y1 σ = some out) : V l d F 0 0 (MW d h σ) [some (.ref (h 0)), none, none, some (.int x3)] 47 [.int y1, .ref (h 0)] := by
  unfold f_M_spans_47 at hf
  refine mp_0_49 (idx := 275) 50 C (by decide +kernel) rfl q_1040 hf (fun σ1 hf => ?_)
  refine zr_aload_n 0 51 C (by decide +kernel) rfl rfl ?_
  refine zr_iload_n 3 52 C (by decide +kernel) rfl rfl ?_
  refine zr_aload_n 0 53 C (by decide +kernel) rfl rfl ?_
  refine mg_0_50 (idx := 278) 56 C (by decide +kernel) rfl q_1041 ?_
  refine zr_icmp_ge (off := 7) 63 59 C (by decide +kernel) (by decide) rfl hf (fun hf => ?_) (fun hf => ?_)
  · refine zr_aload_n 0 64 C (by decide +kernel) rfl rfl ?_
    refine mg_0_50 (idx := 278) 67 C (by decide +kernel) rfl q_1041 ?_
    exact w_M_spans_67 C T _ _ _ hf
  · refine zr_iload_n 3 60 C (by decide +kernel) rfl rfl ?_
    refine zr_goto (off := 7) 67 C (by decide +kernel) (by decide) ?_
    exact w_M_spans_67 C T _ _ _ hf
def f_M_spans_27  (x2 : Int32) (x3 : Int32) (y1 : Int32) (σ : zS) : Option (Int32 × zS) :=
  zlt (zsg σ 48 y1) fun σ1 =>
  (if x2 ≤ (σ1.1 49) then
  f_M_spans_47 x3 (σ1.1 49) σ1
  else
  f_M_spans_47 x3 x2 σ1)
set_option maxRecDepth 4000 in
theorem w_M_spans_27 {l : Launch} {d : zD} {F : zF} {h : Nat → Nat} {out : Int32 × zS}  (C : zOk d F RX11 cX11_spans 4 0 0) (T : zRt d F none none (MW d h out.2))  (x2 : Int32) (x3 : Int32) (y1 : Int32) (σ : zS) (hf : f_M_spans_27  x2 x3 y1 σ = some out) : V l d F 0 0 (MW d h σ) [some (.ref (h 0)), none, some (.int x2), some (.int x3)] 27 [.int y1, .ref (h 0)] := by
  unfold f_M_spans_27 at hf
  refine mp_0_48 (idx := 272) 30 C (by decide +kernel) rfl q_1039 hf (fun σ1 hf => ?_)
  refine zr_aload_n 0 31 C (by decide +kernel) rfl rfl ?_
  refine zr_iload_n 2 32 C (by decide +kernel) rfl rfl ?_
  refine zr_aload_n 0 33 C (by decide +kernel) rfl rfl ?_
  refine mg_0_49 (idx := 275) 36 C (by decide +kernel) rfl q_1040 ?_
  refine zr_icmp_le (off := 7) 43 39 C (by decide +kernel) (by decide) rfl hf (fun hf => ?_) (fun hf => ?_)
  · refine zr_aload_n 0 44 C (by decide +kernel) rfl rfl ?_
    refine mg_0_49 (idx := 275) 47 C (by decide +kernel) rfl q_1040 ?_
    refine zr_less (zA (zN (zN (zA zE)))) ?_
    exact w_M_spans_47 C T _ _ _ hf
  · refine zr_iload_n 2 40 C (by decide +kernel) rfl rfl ?_
    refine zr_goto (off := 7) 47 C (by decide +kernel) (by decide) ?_
    refine zr_less (zA (zN (zN (zA zE)))) ?_
    exact w_M_spans_47 C T _ _ _ hf
def f_M_spans (p1 : Int32) (σ : zS) : Option (Int32 × zS) :=
  zlt (zrem p1 40) fun v1 => 
  zlt (p1 / 40) fun v2 => 
  (if (σ.1 48) ≤ v1 then
  f_M_spans_27 v1 v2 (σ.1 48) σ
  else
  f_M_spans_27 v1 v2 v1 σ)
set_option maxRecDepth 4000 in
theorem m_M_spans {l : Launch} {d : zD} {h : Nat → Nat} {out : Int32 × zS} {σ : zS} {p1 : Int32} (hf : f_M_spans p1 σ = some out) : zM l yX11_spans cX11_spans 4 none 0 0 d [.ref (h 0), .int p1] (MW d h σ) (MW d h out.2) none := by
  refine zM_of [some (.ref (h 0)), some (.int p1), none, none] (by decide +kernel) rfl (Nat.le_of_ble_eq_true rfl) (fun F C T => ?_)
  unfold f_M_spans at hf
  refine zr_iload_n 1 1 C (by decide +kernel) rfl rfl ?_
  refine zr_bipush (v := 40) 40 3 C (by decide +kernel) rfl rfl ?_
  refine zr_irem 4 C (by decide +kernel) rfl (by decide) ?_
  refine zr_name hf (fun v1 hf => ?_)
  refine zr_istore_n 2 [some (.ref (h 0)), some (.int p1), some (.int v1), none] 5 C (by decide +kernel) rfl (by decide) rfl rfl ?_
  refine zr_iload_n 1 6 C (by decide +kernel) rfl rfl ?_
  refine zr_bipush (v := 40) 40 8 C (by decide +kernel) rfl rfl ?_
  refine zr_idiv 9 C (by decide +kernel) rfl (by decide) ?_
  refine zr_name hf (fun v2 hf => ?_)
  refine zr_istore_n 3 [some (.ref (h 0)), some (.int p1), some (.int v1), some (.int v2)] 10 C (by decide +kernel) rfl (by decide) rfl rfl ?_
  refine zr_aload_n 0 11 C (by decide +kernel) rfl rfl ?_
  refine zr_iload_n 2 12 C (by decide +kernel) rfl rfl ?_
  refine zr_aload_n 0 13 C (by decide +kernel) rfl rfl ?_
  refine mg_0_48 (idx := 272) 16 C (by decide +kernel) rfl q_1039 ?_
  refine zr_icmp_ge (off := 7) 23 19 C (by decide +kernel) (by decide) rfl hf (fun hf => ?_) (fun hf => ?_)
  · refine zr_aload_n 0 24 C (by decide +kernel) rfl rfl ?_
    refine mg_0_48 (idx := 272) 27 C (by decide +kernel) rfl q_1039 ?_
    refine zr_less (zA (zN (zA (zA zE)))) ?_
    exact w_M_spans_27 C T _ _ _ _ hf
  · refine zr_iload_n 2 20 C (by decide +kernel) rfl rfl ?_
    refine zr_goto (off := 7) 27 C (by decide +kernel) (by decide) ?_
    refine zr_less (zA (zN (zA (zA zE)))) ?_
    exact w_M_spans_27 C T _ _ _ _ hf
theorem y_M_spans : zY yX11_spans cX11_spans 4 none 1 := ⟨q_1336, q_90, by decide +kernel, by decide +kernel, by decide +kernel⟩
theorem k_M_spans {l : Launch} {d : zD} {F : zF} {h : Nat → Nat} {σ : zS} {lv : List (Option Value)} {pc : Nat} {own : String} {cc : ByteArray} {nL fr lo idx : Nat} {rest : List Value} {β : Type} {kf : Int32 → zS → Option β} {o2 : β} {p1 : Int32} (pc' : Nat) (C : zOk d F own cc nL fr lo) (hd : decode cc pc = .ok (.invokevirtual idx, 3)) (hp : pc + 3 = pc') (hq : Cond.methodLink own idx yX11_spans ∈ zW) (hm : 0 + 1 ≤ fr ∧ 8 + (4 + 11) + 0 ≤ lo) (hr : (rest.map fun v => v.category).sum ≤ 8) (hf : zbd (f_M_spans p1 σ) kf = some o2) (K : ∀ (r : Int32) (σ' : zS), kf r σ' = some o2 → V l d F 0 0 (MW d h σ') lv pc' (rest)) : V l d F 0 0 (MW d h σ) lv pc (.int p1 :: .ref (h 0) :: rest) := by
  obtain ⟨q, h1, h2⟩ := zbd_some hf
  exact zr_callV y_M_spans ⟨q_1335, q_58⟩ 0 rfl rfl (As := [.int p1]) (m_M_spans h1) rfl rfl pc' C hd hp hq hm hr (K _ _ h2)
/-! StepsBeyondModel.looks(I)V -/
def f_M_looks_105 (k65 : Int32 → Int32 → zS → Option (Int32 × zS)) (x1 : Int32) (x2 : Int32) (σ : zS) : Option (Int32 × zS) :=
  k65 x1 (x2 + 1) σ
set_option maxRecDepth 4000 in
theorem w_M_looks_105 {l : Launch} {d : zD} {F : zF} {h : Nat → Nat} {out : Int32 × zS} {k65 : Int32 → Int32 → zS → Option (Int32 × zS)} (C : zOk d F RX11 cX11_looks 3 6 140) (T : zRt d F none none (MW d h out.2)) (H65 : ∀ (x1 : Int32) (x2 : Int32) (σ : zS), k65 x1 x2 σ = some out → V l d F 0 0 (MW d h σ) [some (.ref (h 0)), some (.int x1), some (.int x2)] 65 []) (x1 : Int32) (x2 : Int32) (σ : zS) (hf : f_M_looks_105 k65 x1 x2 σ = some out) : V l d F 0 0 (MW d h σ) [some (.ref (h 0)), some (.int x1), some (.int x2)] 105 [] := by
  unfold f_M_looks_105 at hf
  refine zr_iinc (j := 1) 2 [some (.ref (h 0)), some (.int x1), some (.int (x2 + 1))] 108 C (by decide +kernel) rfl rfl rfl (by decide) rfl rfl ?_
  refine zr_goto (off := -43) 65 C (by decide +kernel) (by decide) ?_
  exact H65 _ _ _ hf
def f_M_looks_65b (k65 : Int32 → Int32 → zS → Option (Int32 × zS)) (x1 : Int32) (x2 : Int32) (σ : zS) : Option (Int32 × zS) :=
  (if (σ.1 0) ≤ x2 then
  some (0, σ)
  else
  zin x1 12 ((if (σ.2 3 x1.toNatClampNeg) = 5 then
  some (0, σ)
  else
  (if ((zshr (σ.1 47) x2) &&& 1) = 1 then
  zin x2 20 (zbd (f_M_spans (σ.2 1 x2.toNatClampNeg) σ) fun _ σ1 =>
  f_M_looks_105 k65 x1 x2 σ1)
  else
  f_M_looks_105 k65 x1 x2 σ))))
set_option maxRecDepth 4000 in
theorem w_M_looks_65b {l : Launch} {d : zD} {F : zF} {h : Nat → Nat} {out : Int32 × zS} {k65 : Int32 → Int32 → zS → Option (Int32 × zS)} (C : zOk d F RX11 cX11_looks 3 6 140) (T : zRt d F none none (MW d h out.2)) (H65 : ∀ (x1 : Int32) (x2 : Int32) (σ : zS), k65 x1 x2 σ = some out → V l d F 0 0 (MW d h σ) [some (.ref (h 0)), some (.int x1), some (.int x2)] 65 []) (x1 : Int32) (x2 : Int32) (σ : zS) (hf : f_M_looks_65b k65 x1 x2 σ = some out) : V l d F 0 0 (MW d h σ) [some (.ref (h 0)), some (.int x1), some (.int x2)] 65 [] := by
  unfold f_M_looks_65b at hf
  refine zr_iload_n 2 66 C (by decide +kernel) rfl rfl ?_
  refine zr_aload_n 0 67 C (by decide +kernel) rfl rfl ?_
  refine mg_0_0 (idx := 143) 70 C (by decide +kernel) rfl q_991 ?_
  refine zr_icmp_ge (off := 41) 111 73 C (by decide +kernel) (by decide) rfl hf (fun hf => ?_) (fun hf => ?_)
  · obtain rfl := Option.some.inj hf
    exact zr_vret C (by decide +kernel) T
  · refine zr_aload_n 0 74 C (by decide +kernel) rfl rfl ?_
    refine mg_0_4 (idx := 16) 77 C (by decide +kernel) rfl q_995 ?_
    refine zr_iload_n 1 78 C (by decide +kernel) rfl rfl ?_
    refine ml_3 79 C (by decide +kernel) rfl hf (fun hf => ?_)
    refine zr_iconst (v := 5) 5 80 C (by decide +kernel) rfl rfl ?_
    refine zr_icmp_eq (off := 31) 111 83 C (by decide +kernel) (by decide) rfl hf (fun hf => ?_) (fun hf => ?_)
    · obtain rfl := Option.some.inj hf
      exact zr_vret C (by decide +kernel) T
    · refine zr_aload_n 0 84 C (by decide +kernel) rfl rfl ?_
      refine mg_0_47 (idx := 287) 87 C (by decide +kernel) rfl q_1038 ?_
      refine zr_iload_n 2 88 C (by decide +kernel) rfl rfl ?_
      refine zr_ishr 89 C (by decide +kernel) rfl ?_
      refine zr_iconst (v := 1) 1 90 C (by decide +kernel) rfl rfl ?_
      refine zr_iand 91 C (by decide +kernel) rfl ?_
      refine zr_iconst (v := 1) 1 92 C (by decide +kernel) rfl rfl ?_
      refine zr_icmp_ne (off := 13) 105 95 C (by decide +kernel) (by decide) rfl hf (fun hf => ?_) (fun hf => ?_)
      · exact w_M_looks_105 C T H65 _ _ _ hf
      · refine zr_aload_n 0 96 C (by decide +kernel) rfl rfl ?_
        refine zr_aload_n 0 97 C (by decide +kernel) rfl rfl ?_
        refine mg_0_1 (idx := 7) 100 C (by decide +kernel) rfl q_992 ?_
        refine zr_iload_n 2 101 C (by decide +kernel) rfl rfl ?_
        refine ml_1 102 C (by decide +kernel) rfl hf (fun hf => ?_)
        refine k_M_spans (idx := 290) 105 C (by decide +kernel) rfl q_1333 (zb2 rfl rfl) (Nat.le_of_ble_eq_true rfl) hf (fun _ σ1 hf => ?_)
        exact w_M_looks_105 C T H65 _ _ _ hf
def f_M_looks_65  : Nat → Int32 → Int32 → zS → Option (Int32 × zS)
  | 0, _, _, _ => none
  | n + 1, x1, x2,  σ => f_M_looks_65b (fun x1 x2 σ => f_M_looks_65  n x1 x2 σ) x1 x2 σ
theorem w_M_looks_65 {l : Launch} {d : zD} {F : zF} {h : Nat → Nat} {out : Int32 × zS}  (C : zOk d F RX11 cX11_looks 3 6 140) (T : zRt d F none none (MW d h out.2))  : ∀ (n : Nat) (x1 : Int32) (x2 : Int32) (σ : zS), f_M_looks_65  n x1 x2 σ = some out → V l d F 0 0 (MW d h σ) [some (.ref (h 0)), some (.int x1), some (.int x2)] 65 [] := by
  intro n
  induction n with
  | zero =>
    intro x1 x2 σ hf
    cases hf
  | succ n ih =>
    intro x1 x2 σ hf
    exact w_M_looks_65b C T ih x1 x2 σ hf
def f_M_looks_63  (x1 : Int32) (σ : zS) : Option (Int32 × zS) :=
  f_M_looks_65 zfu x1 0 σ
set_option maxRecDepth 4000 in
theorem w_M_looks_63 {l : Launch} {d : zD} {F : zF} {h : Nat → Nat} {out : Int32 × zS}  (C : zOk d F RX11 cX11_looks 3 6 140) (T : zRt d F none none (MW d h out.2))  (x1 : Int32) (σ : zS) (hf : f_M_looks_63  x1 σ = some out) : V l d F 0 0 (MW d h σ) [some (.ref (h 0)), some (.int x1), none] 63 [] := by
  unfold f_M_looks_63 at hf
  refine zr_iconst (v := 0) 0 64 C (by decide +kernel) rfl rfl ?_
  refine zr_istore_n 2 [some (.ref (h 0)), some (.int x1), some (.int 0)] 65 C (by decide +kernel) rfl (by decide) rfl rfl ?_
  exact w_M_looks_65 C T zfu _ _ _ hf
def f_M_looks (p1 : Int32) (σ : zS) : Option (Int32 × zS) :=
  zbd (f_M_reach p1 σ) fun r2 σ1 =>
  zlt (zsg σ1 46 r2) fun σ3 =>
  zin p1 12 (zbd (f_M_townOf (σ3.2 4 p1.toNatClampNeg) σ3) fun r5 σ4 =>
  zlt (zsg σ4 47 r5) fun σ6 =>
  zlt (zsg σ6 48 40) fun σ7 =>
  zlt (zsg σ7 49 (-1)) fun σ8 =>
  zlt (zsg σ8 50 40) fun σ9 =>
  zlt (zsg σ9 51 (-1)) fun σ10 =>
  zin p1 12 ((if (σ10.2 3 p1.toNatClampNeg) = 5 then
  zbd (f_M_spans (σ10.1 7) σ10) fun _ σ11 =>
  f_M_looks_63 p1 σ11
  else
  f_M_looks_63 p1 σ10)))
set_option maxRecDepth 4000 in
theorem m_M_looks {l : Launch} {d : zD} {h : Nat → Nat} {out : Int32 × zS} {σ : zS} {p1 : Int32} (hf : f_M_looks p1 σ = some out) : zM l yX11_looks cX11_looks 3 none 6 140 d [.ref (h 0), .int p1] (MW d h σ) (MW d h out.2) none := by
  refine zM_of [some (.ref (h 0)), some (.int p1), none] (by decide +kernel) rfl (Nat.le_of_ble_eq_true rfl) (fun F C T => ?_)
  unfold f_M_looks at hf
  refine zr_aload_n 0 1 C (by decide +kernel) rfl rfl ?_
  refine zr_aload_n 0 2 C (by decide +kernel) rfl rfl ?_
  refine zr_iload_n 1 3 C (by decide +kernel) rfl rfl ?_
  refine k_M_reach (idx := 266) 6 C (by decide +kernel) rfl q_1317 (zb2 rfl rfl) (Nat.le_of_ble_eq_true rfl) hf (fun r2 σ1 hf => ?_)
  refine mp_0_46 (idx := 284) 9 C (by decide +kernel) rfl q_1037 hf (fun σ3 hf => ?_)
  refine zr_aload_n 0 10 C (by decide +kernel) rfl rfl ?_
  refine zr_aload_n 0 11 C (by decide +kernel) rfl rfl ?_
  refine zr_aload_n 0 12 C (by decide +kernel) rfl rfl ?_
  refine mg_0_5 (idx := 19) 15 C (by decide +kernel) rfl q_996 ?_
  refine zr_iload_n 1 16 C (by decide +kernel) rfl rfl ?_
  refine ml_4 17 C (by decide +kernel) rfl hf (fun hf => ?_)
  refine k_M_townOf (idx := 251) 20 C (by decide +kernel) rfl q_1282 (zb2 rfl rfl) (Nat.le_of_ble_eq_true rfl) hf (fun r5 σ4 hf => ?_)
  refine mp_0_47 (idx := 287) 23 C (by decide +kernel) rfl q_1038 hf (fun σ6 hf => ?_)
  refine zr_aload_n 0 24 C (by decide +kernel) rfl rfl ?_
  refine zr_bipush (v := 40) 40 26 C (by decide +kernel) rfl rfl ?_
  refine mp_0_48 (idx := 272) 29 C (by decide +kernel) rfl q_1039 hf (fun σ7 hf => ?_)
  refine zr_aload_n 0 30 C (by decide +kernel) rfl rfl ?_
  refine zr_iconst (v := (-1)) (-1) 31 C (by decide +kernel) rfl rfl ?_
  refine mp_0_49 (idx := 275) 34 C (by decide +kernel) rfl q_1040 hf (fun σ8 hf => ?_)
  refine zr_aload_n 0 35 C (by decide +kernel) rfl rfl ?_
  refine zr_bipush (v := 40) 40 37 C (by decide +kernel) rfl rfl ?_
  refine mp_0_50 (idx := 278) 40 C (by decide +kernel) rfl q_1041 hf (fun σ9 hf => ?_)
  refine zr_aload_n 0 41 C (by decide +kernel) rfl rfl ?_
  refine zr_iconst (v := (-1)) (-1) 42 C (by decide +kernel) rfl rfl ?_
  refine mp_0_51 (idx := 281) 45 C (by decide +kernel) rfl q_1042 hf (fun σ10 hf => ?_)
  refine zr_aload_n 0 46 C (by decide +kernel) rfl rfl ?_
  refine mg_0_4 (idx := 16) 49 C (by decide +kernel) rfl q_995 ?_
  refine zr_iload_n 1 50 C (by decide +kernel) rfl rfl ?_
  refine ml_3 51 C (by decide +kernel) rfl hf (fun hf => ?_)
  refine zr_iconst (v := 5) 5 52 C (by decide +kernel) rfl rfl ?_
  refine zr_icmp_ne (off := 11) 63 55 C (by decide +kernel) (by decide) rfl hf (fun hf => ?_) (fun hf => ?_)
  · exact w_M_looks_63 C T _ _ hf
  · refine zr_aload_n 0 56 C (by decide +kernel) rfl rfl ?_
    refine zr_aload_n 0 57 C (by decide +kernel) rfl rfl ?_
    refine mg_0_7 (idx := 260) 60 C (by decide +kernel) rfl q_998 ?_
    refine k_M_spans (idx := 290) 63 C (by decide +kernel) rfl q_1333 (zb2 rfl rfl) (Nat.le_of_ble_eq_true rfl) hf (fun _ σ11 hf => ?_)
    exact w_M_looks_63 C T _ _ hf
theorem y_M_looks : zY yX11_looks cX11_looks 3 none 1 := ⟨q_1332, q_90, by decide +kernel, by decide +kernel, by decide +kernel⟩
theorem k_M_looks {l : Launch} {d : zD} {F : zF} {h : Nat → Nat} {σ : zS} {lv : List (Option Value)} {pc : Nat} {own : String} {cc : ByteArray} {nL fr lo idx : Nat} {rest : List Value} {β : Type} {kf : Int32 → zS → Option β} {o2 : β} {p1 : Int32} (pc' : Nat) (C : zOk d F own cc nL fr lo) (hd : decode cc pc = .ok (.invokevirtual idx, 3)) (hp : pc + 3 = pc') (hq : Cond.methodLink own idx yX11_looks ∈ zW) (hm : 6 + 1 ≤ fr ∧ 8 + (3 + 11) + 140 ≤ lo) (hr : (rest.map fun v => v.category).sum ≤ 8) (hf : zbd (f_M_looks p1 σ) kf = some o2) (K : ∀ (r : Int32) (σ' : zS), kf r σ' = some o2 → V l d F 0 0 (MW d h σ') lv pc' (rest)) : V l d F 0 0 (MW d h σ) lv pc (.int p1 :: .ref (h 0) :: rest) := by
  obtain ⟨q, h1, h2⟩ := zbd_some hf
  exact zr_callV y_M_looks ⟨q_1331, q_57⟩ 0 rfl rfl (As := [.int p1]) (m_M_looks h1) rfl rfl pc' C hd hp hq hm hr (K _ _ h2)
/-! StepsBeyondModel.isBox(II)Z -/
def f_M_isBox (p1 : Int32) (p2 : Int32) (σ : zS) : Option (Int32 × zS) :=
  zbd (f_M_in (zrem p1 40) ((σ.1 48) - p2) ((σ.1 49) + p2) σ) fun r2 σ1 =>
  (if r2 = 0 then
  some (0, σ1)
  else
  zbd (f_M_in (p1 / 40) ((σ1.1 50) - p2) ((σ1.1 51) + p2) σ1) fun r4 σ3 =>
  (if r4 = 0 then
  some (0, σ3)
  else
  some (1, σ3)))
set_option maxRecDepth 4000 in
theorem m_M_isBox {l : Launch} {d : zD} {h : Nat → Nat} {out : Int32 × zS} {σ : zS} {p1 : Int32} {p2 : Int32} (hf : f_M_isBox p1 p2 σ = some out) : zM l yX11_isBox cX11_isBox 3 (some .boolean) 1 22 d [.ref (h 0), .int p1, .int p2] (MW d h σ) (MW d h out.2) (some (.int out.1)) := by
  refine zM_of [some (.ref (h 0)), some (.int p1), some (.int p2)] (by decide +kernel) rfl (Nat.le_of_ble_eq_true rfl) (fun F C T => ?_)
  unfold f_M_isBox at hf
  refine zr_iload_n 1 1 C (by decide +kernel) rfl rfl ?_
  refine zr_bipush (v := 40) 40 3 C (by decide +kernel) rfl rfl ?_
  refine zr_irem 4 C (by decide +kernel) rfl (by decide) ?_
  refine zr_aload_n 0 5 C (by decide +kernel) rfl rfl ?_
  refine mg_0_48 (idx := 272) 8 C (by decide +kernel) rfl q_1039 ?_
  refine zr_iload_n 2 9 C (by decide +kernel) rfl rfl ?_
  refine zr_isub 10 C (by decide +kernel) rfl ?_
  refine zr_aload_n 0 11 C (by decide +kernel) rfl rfl ?_
  refine mg_0_49 (idx := 275) 14 C (by decide +kernel) rfl q_1040 ?_
  refine zr_iload_n 2 15 C (by decide +kernel) rfl rfl ?_
  refine zr_iadd 16 C (by decide +kernel) rfl ?_
  refine k_M_in (idx := 139) 19 C (by decide +kernel) rfl q_1181 (zb2 rfl rfl) (Nat.le_of_ble_eq_true rfl) hf (fun r2 σ1 hf => ?_)
  refine zr_if_eq (off := 29) 48 22 C (by decide +kernel) (by decide) rfl hf (fun hf => ?_) (fun hf => ?_)
  · refine zr_iconst (v := 0) 0 49 C (by decide +kernel) rfl rfl ?_
    obtain rfl := Option.some.inj hf
    exact zr_zret C (by decide +kernel) rfl T
  · refine zr_iload_n 1 23 C (by decide +kernel) rfl rfl ?_
    refine zr_bipush (v := 40) 40 25 C (by decide +kernel) rfl rfl ?_
    refine zr_idiv 26 C (by decide +kernel) rfl (by decide) ?_
    refine zr_aload_n 0 27 C (by decide +kernel) rfl rfl ?_
    refine mg_0_50 (idx := 278) 30 C (by decide +kernel) rfl q_1041 ?_
    refine zr_iload_n 2 31 C (by decide +kernel) rfl rfl ?_
    refine zr_isub 32 C (by decide +kernel) rfl ?_
    refine zr_aload_n 0 33 C (by decide +kernel) rfl rfl ?_
    refine mg_0_51 (idx := 281) 36 C (by decide +kernel) rfl q_1042 ?_
    refine zr_iload_n 2 37 C (by decide +kernel) rfl rfl ?_
    refine zr_iadd 38 C (by decide +kernel) rfl ?_
    refine k_M_in (idx := 139) 41 C (by decide +kernel) rfl q_1181 (zb2 rfl rfl) (Nat.le_of_ble_eq_true rfl) hf (fun r4 σ3 hf => ?_)
    refine zr_if_eq (off := 7) 48 44 C (by decide +kernel) (by decide) rfl hf (fun hf => ?_) (fun hf => ?_)
    · refine zr_iconst (v := 0) 0 49 C (by decide +kernel) rfl rfl ?_
      obtain rfl := Option.some.inj hf
      exact zr_zret C (by decide +kernel) rfl T
    · refine zr_iconst (v := 1) 1 45 C (by decide +kernel) rfl rfl ?_
      refine zr_goto (off := 4) 49 C (by decide +kernel) (by decide) ?_
      obtain rfl := Option.some.inj hf
      exact zr_zret C (by decide +kernel) rfl T
theorem y_M_isBox : zY yX11_isBox cX11_isBox 3 (some .boolean) 2 := ⟨q_1348, q_90, by decide +kernel, by decide +kernel, by decide +kernel⟩
theorem k_M_isBox {l : Launch} {d : zD} {F : zF} {h : Nat → Nat} {σ : zS} {lv : List (Option Value)} {pc : Nat} {own : String} {cc : ByteArray} {nL fr lo idx : Nat} {rest : List Value} {β : Type} {kf : Int32 → zS → Option β} {o2 : β} {p1 : Int32} {p2 : Int32} (pc' : Nat) (C : zOk d F own cc nL fr lo) (hd : decode cc pc = .ok (.invokevirtual idx, 3)) (hp : pc + 3 = pc') (hq : Cond.methodLink own idx yX11_isBox ∈ zW) (hm : 1 + 1 ≤ fr ∧ 8 + (3 + 11) + 22 ≤ lo) (hr : (rest.map fun v => v.category).sum ≤ 8) (hf : zbd (f_M_isBox p1 p2 σ) kf = some o2) (K : ∀ (r : Int32) (σ' : zS), kf r σ' = some o2 → V l d F 0 0 (MW d h σ') lv pc' (.int r :: rest)) : V l d F 0 0 (MW d h σ) lv pc (.int p2 :: .int p1 :: .ref (h 0) :: rest) := by
  obtain ⟨q, h1, h2⟩ := zbd_some hf
  exact zr_callV y_M_isBox ⟨q_1347, q_61⟩ 0 rfl rfl (As := [.int p1, .int p2]) (m_M_isBox h1) rfl rfl pc' C hd hp hq hm hr (K _ _ h2)
/-! StepsBeyondModel.byHouses(I)Z -/
def f_M_byHouses_41 (k2 : Int32 → Int32 → zS → Option (Int32 × zS)) (x1 : Int32) (x2 : Int32) (σ : zS) : Option (Int32 × zS) :=
  k2 x1 (x2 + 1) σ
set_option maxRecDepth 4000 in
theorem w_M_byHouses_41 {l : Launch} {d : zD} {F : zF} {h : Nat → Nat} {out : Int32 × zS} {k2 : Int32 → Int32 → zS → Option (Int32 × zS)} (C : zOk d F RX11 cX11_byHouses 3 2 41) (T : zRt d F (some .boolean) (some (.int out.1)) (MW d h out.2)) (H2 : ∀ (x1 : Int32) (x2 : Int32) (σ : zS), k2 x1 x2 σ = some out → V l d F 0 0 (MW d h σ) [some (.ref (h 0)), some (.int x1), some (.int x2)] 2 []) (x1 : Int32) (x2 : Int32) (σ : zS) (hf : f_M_byHouses_41 k2 x1 x2 σ = some out) : V l d F 0 0 (MW d h σ) [some (.ref (h 0)), some (.int x1), some (.int x2)] 41 [] := by
  unfold f_M_byHouses_41 at hf
  refine zr_iinc (j := 1) 2 [some (.ref (h 0)), some (.int x1), some (.int (x2 + 1))] 44 C (by decide +kernel) rfl rfl rfl (by decide) rfl rfl ?_
  refine zr_goto (off := -42) 2 C (by decide +kernel) (by decide) ?_
  exact H2 _ _ _ hf
def f_M_byHouses_2b (k2 : Int32 → Int32 → zS → Option (Int32 × zS)) (x1 : Int32) (x2 : Int32) (σ : zS) : Option (Int32 × zS) :=
  (if (σ.1 0) ≤ x2 then
  some (0, σ)
  else
  (if ((zshr (σ.1 47) x2) &&& 1) = 1 then
  zin x2 20 (zbd (f_M_apart x1 (σ.2 1 x2.toNatClampNeg) σ) fun r2 σ1 =>
  (if (σ1.1 46) < r2 then
  f_M_byHouses_41 k2 x1 x2 σ1
  else
  some (1, σ1)))
  else
  f_M_byHouses_41 k2 x1 x2 σ))
set_option maxRecDepth 4000 in
theorem w_M_byHouses_2b {l : Launch} {d : zD} {F : zF} {h : Nat → Nat} {out : Int32 × zS} {k2 : Int32 → Int32 → zS → Option (Int32 × zS)} (C : zOk d F RX11 cX11_byHouses 3 2 41) (T : zRt d F (some .boolean) (some (.int out.1)) (MW d h out.2)) (H2 : ∀ (x1 : Int32) (x2 : Int32) (σ : zS), k2 x1 x2 σ = some out → V l d F 0 0 (MW d h σ) [some (.ref (h 0)), some (.int x1), some (.int x2)] 2 []) (x1 : Int32) (x2 : Int32) (σ : zS) (hf : f_M_byHouses_2b k2 x1 x2 σ = some out) : V l d F 0 0 (MW d h σ) [some (.ref (h 0)), some (.int x1), some (.int x2)] 2 [] := by
  unfold f_M_byHouses_2b at hf
  refine zr_iload_n 2 3 C (by decide +kernel) rfl rfl ?_
  refine zr_aload_n 0 4 C (by decide +kernel) rfl rfl ?_
  refine mg_0_0 (idx := 143) 7 C (by decide +kernel) rfl q_991 ?_
  refine zr_icmp_ge (off := 40) 47 10 C (by decide +kernel) (by decide) rfl hf (fun hf => ?_) (fun hf => ?_)
  · refine zr_iconst (v := 0) 0 48 C (by decide +kernel) rfl rfl ?_
    obtain rfl := Option.some.inj hf
    exact zr_zret C (by decide +kernel) rfl T
  · refine zr_aload_n 0 11 C (by decide +kernel) rfl rfl ?_
    refine mg_0_47 (idx := 287) 14 C (by decide +kernel) rfl q_1038 ?_
    refine zr_iload_n 2 15 C (by decide +kernel) rfl rfl ?_
    refine zr_ishr 16 C (by decide +kernel) rfl ?_
    refine zr_iconst (v := 1) 1 17 C (by decide +kernel) rfl rfl ?_
    refine zr_iand 18 C (by decide +kernel) rfl ?_
    refine zr_iconst (v := 1) 1 19 C (by decide +kernel) rfl rfl ?_
    refine zr_icmp_ne (off := 22) 41 22 C (by decide +kernel) (by decide) rfl hf (fun hf => ?_) (fun hf => ?_)
    · exact w_M_byHouses_41 C T H2 _ _ _ hf
    · refine zr_iload_n 1 23 C (by decide +kernel) rfl rfl ?_
      refine zr_aload_n 0 24 C (by decide +kernel) rfl rfl ?_
      refine mg_0_1 (idx := 7) 27 C (by decide +kernel) rfl q_992 ?_
      refine zr_iload_n 2 28 C (by decide +kernel) rfl rfl ?_
      refine ml_1 29 C (by decide +kernel) rfl hf (fun hf => ?_)
      refine k_M_apart (idx := 225) 32 C (by decide +kernel) rfl q_1257 (zb2 rfl rfl) (Nat.le_of_ble_eq_true rfl) hf (fun r2 σ1 hf => ?_)
      refine zr_aload_n 0 33 C (by decide +kernel) rfl rfl ?_
      refine mg_0_46 (idx := 284) 36 C (by decide +kernel) rfl q_1037 ?_
      refine zr_icmp_gt (off := 5) 41 39 C (by decide +kernel) (by decide) rfl hf (fun hf => ?_) (fun hf => ?_)
      · exact w_M_byHouses_41 C T H2 _ _ _ hf
      · refine zr_iconst (v := 1) 1 40 C (by decide +kernel) rfl rfl ?_
        obtain rfl := Option.some.inj hf
        exact zr_zret C (by decide +kernel) rfl T
def f_M_byHouses_2  : Nat → Int32 → Int32 → zS → Option (Int32 × zS)
  | 0, _, _, _ => none
  | n + 1, x1, x2,  σ => f_M_byHouses_2b (fun x1 x2 σ => f_M_byHouses_2  n x1 x2 σ) x1 x2 σ
theorem w_M_byHouses_2 {l : Launch} {d : zD} {F : zF} {h : Nat → Nat} {out : Int32 × zS}  (C : zOk d F RX11 cX11_byHouses 3 2 41) (T : zRt d F (some .boolean) (some (.int out.1)) (MW d h out.2))  : ∀ (n : Nat) (x1 : Int32) (x2 : Int32) (σ : zS), f_M_byHouses_2  n x1 x2 σ = some out → V l d F 0 0 (MW d h σ) [some (.ref (h 0)), some (.int x1), some (.int x2)] 2 [] := by
  intro n
  induction n with
  | zero =>
    intro x1 x2 σ hf
    cases hf
  | succ n ih =>
    intro x1 x2 σ hf
    exact w_M_byHouses_2b C T ih x1 x2 σ hf
def f_M_byHouses (p1 : Int32) (σ : zS) : Option (Int32 × zS) :=
  f_M_byHouses_2 zfu p1 0 σ
set_option maxRecDepth 4000 in
theorem m_M_byHouses {l : Launch} {d : zD} {h : Nat → Nat} {out : Int32 × zS} {σ : zS} {p1 : Int32} (hf : f_M_byHouses p1 σ = some out) : zM l yX11_byHouses cX11_byHouses 3 (some .boolean) 2 41 d [.ref (h 0), .int p1] (MW d h σ) (MW d h out.2) (some (.int out.1)) := by
  refine zM_of [some (.ref (h 0)), some (.int p1), none] (by decide +kernel) rfl (Nat.le_of_ble_eq_true rfl) (fun F C T => ?_)
  unfold f_M_byHouses at hf
  refine zr_iconst (v := 0) 0 1 C (by decide +kernel) rfl rfl ?_
  refine zr_istore_n 2 [some (.ref (h 0)), some (.int p1), some (.int 0)] 2 C (by decide +kernel) rfl (by decide) rfl rfl ?_
  exact w_M_byHouses_2 C T zfu _ _ _ hf
theorem y_M_byHouses : zY yX11_byHouses cX11_byHouses 3 (some .boolean) 1 := ⟨q_1344, q_90, by decide +kernel, by decide +kernel, by decide +kernel⟩
theorem k_M_byHouses {l : Launch} {d : zD} {F : zF} {h : Nat → Nat} {σ : zS} {lv : List (Option Value)} {pc : Nat} {own : String} {cc : ByteArray} {nL fr lo idx : Nat} {rest : List Value} {β : Type} {kf : Int32 → zS → Option β} {o2 : β} {p1 : Int32} (pc' : Nat) (C : zOk d F own cc nL fr lo) (hd : decode cc pc = .ok (.invokevirtual idx, 3)) (hp : pc + 3 = pc') (hq : Cond.methodLink own idx yX11_byHouses ∈ zW) (hm : 2 + 1 ≤ fr ∧ 8 + (3 + 11) + 41 ≤ lo) (hr : (rest.map fun v => v.category).sum ≤ 8) (hf : zbd (f_M_byHouses p1 σ) kf = some o2) (K : ∀ (r : Int32) (σ' : zS), kf r σ' = some o2 → V l d F 0 0 (MW d h σ') lv pc' (.int r :: rest)) : V l d F 0 0 (MW d h σ) lv pc (.int p1 :: .ref (h 0) :: rest) := by
  obtain ⟨q, h1, h2⟩ := zbd_some hf
  exact zr_callV y_M_byHouses ⟨q_1343, q_60⟩ 0 rfl rfl (As := [.int p1]) (m_M_byHouses h1) rfl rfl pc' C hd hp hq hm hr (K _ _ h2)
/-! StepsBeyondModel.isIn(II)Z -/
def f_M_isIn_121   (σ : zS) : Option (Int32 × zS) :=
  some (1, σ)
set_option maxRecDepth 4000 in
theorem w_M_isIn_121 {l : Launch} {d : zD} {F : zF} {h : Nat → Nat} {out : Int32 × zS}  (C : zOk d F RX11 cX11_isIn 3 3 63) (T : zRt d F (some .boolean) (some (.int out.1)) (MW d h out.2))   (σ : zS) (hf : f_M_isIn_121   σ = some out) : V l d F 0 0 (MW d h σ) [none, none, none] 121 [] := by
  unfold f_M_isIn_121 at hf
  refine zr_iconst (v := 1) 1 122 C (by decide +kernel) rfl rfl ?_
  refine zr_goto (off := 4) 126 C (by decide +kernel) (by decide) ?_
  obtain rfl := Option.some.inj hf
  exact zr_zret C (by decide +kernel) rfl T
def f_M_isIn (p1 : Int32) (p2 : Int32) (σ : zS) : Option (Int32 × zS) :=
  zin p1 12 ((if (σ.2 3 p1.toNatClampNeg) = 0 then
  zbd (f_M_middle p1 σ) fun r4 σ3 =>
  zbd (f_M_apart p2 r4 σ3) fun r6 σ5 =>
  (if (σ5.1 46) < r6 then
  some (0, σ5)
  else
  some (1, σ5))
  else
  (if (σ.2 3 p1.toNatClampNeg) = 1 then
  zbd (f_M_byHouses p2 σ) fun r8 σ7 =>
  zbo r8 (some (r8, σ7))
  else
  (if (σ.2 3 p1.toNatClampNeg) = 3 then
  zbd (f_M_byHouses p2 σ) fun r10 σ9 =>
  (if r10 = 0 then
  zin p1 12 ((if (2 * (σ9.2 5 p1.toNatClampNeg)) < ((σ9.1 49) - (σ9.1 48)) then
  some (0, σ9)
  else
  zin p1 12 ((if (2 * (σ9.2 5 p1.toNatClampNeg)) < ((σ9.1 51) - (σ9.1 50)) then
  some (0, σ9)
  else
  zbd (f_M_isBox p2 0 σ9) fun r12 σ11 =>
  (if r12 = 0 then
  some (0, σ11)
  else
  f_M_isIn_121 σ11)))))
  else
  f_M_isIn_121 σ9)
  else
  zbd (f_M_isBox p2 (σ.1 46) σ) fun r2 σ1 =>
  zbo r2 (some (r2, σ1))))))
set_option maxRecDepth 4000 in
theorem m_M_isIn {l : Launch} {d : zD} {h : Nat → Nat} {out : Int32 × zS} {σ : zS} {p1 : Int32} {p2 : Int32} (hf : f_M_isIn p1 p2 σ = some out) : zM l yX11_isIn cX11_isIn 3 (some .boolean) 3 63 d [.ref (h 0), .int p1, .int p2] (MW d h σ) (MW d h out.2) (some (.int out.1)) := by
  refine zM_of [some (.ref (h 0)), some (.int p1), some (.int p2)] (by decide +kernel) rfl (Nat.le_of_ble_eq_true rfl) (fun F C T => ?_)
  unfold f_M_isIn at hf
  refine zr_aload_n 0 1 C (by decide +kernel) rfl rfl ?_
  refine mg_0_4 (idx := 16) 4 C (by decide +kernel) rfl q_995 ?_
  refine zr_iload_n 1 5 C (by decide +kernel) rfl rfl ?_
  refine ml_3 6 C (by decide +kernel) rfl hf (fun hf => ?_)
  refine zr_tcase (dflt := 121) (lw := 0) (hi := 3) (offs := #[30, 52, 121, 58]) (len := 30) (off := 30) (j := 0) 0 36 C (by decide +kernel) (by decide) (by decide) rfl (by decide) hf (fun hf => ?_) (fun hn0 hf => ?_)
  · refine zr_iload_n 2 37 C (by decide +kernel) rfl rfl ?_
    refine zr_aload_n 0 38 C (by decide +kernel) rfl rfl ?_
    refine zr_iload_n 1 39 C (by decide +kernel) rfl rfl ?_
    refine k_M_middle (idx := 269) 42 C (by decide +kernel) rfl q_1321 (zb2 rfl rfl) (Nat.le_of_ble_eq_true rfl) hf (fun r4 σ3 hf => ?_)
    refine k_M_apart (idx := 225) 45 C (by decide +kernel) rfl q_1257 (zb2 rfl rfl) (Nat.le_of_ble_eq_true rfl) hf (fun r6 σ5 hf => ?_)
    refine zr_aload_n 0 46 C (by decide +kernel) rfl rfl ?_
    refine mg_0_46 (idx := 284) 49 C (by decide +kernel) rfl q_1037 ?_
    refine zr_icmp_gt (off := 7) 56 52 C (by decide +kernel) (by decide) rfl hf (fun hf => ?_) (fun hf => ?_)
    · refine zr_iconst (v := 0) 0 57 C (by decide +kernel) rfl rfl ?_
      obtain rfl := Option.some.inj hf
      exact zr_zret C (by decide +kernel) rfl T
    · refine zr_iconst (v := 1) 1 53 C (by decide +kernel) rfl rfl ?_
      refine zr_goto (off := 4) 57 C (by decide +kernel) (by decide) ?_
      obtain rfl := Option.some.inj hf
      exact zr_zret C (by decide +kernel) rfl T
  refine zr_tcase (dflt := 121) (lw := 0) (hi := 3) (offs := #[30, 52, 121, 58]) (len := 30) (off := 52) (j := 1) 1 58 C (by decide +kernel) (by decide) (by decide) rfl (by decide) hf (fun hf => ?_) (fun hn1 hf => ?_)
  · refine zr_aload_n 0 59 C (by decide +kernel) rfl rfl ?_
    refine zr_iload_n 2 60 C (by decide +kernel) rfl rfl ?_
    refine k_M_byHouses (idx := 293) 63 C (by decide +kernel) rfl q_1341 (zb2 rfl rfl) (Nat.le_of_ble_eq_true rfl) hf (fun r8 σ7 hf => ?_)
    obtain ⟨hz, hf⟩ := zbo_some hf
    obtain rfl := Option.some.inj hf
    exact zr_zret C (by decide +kernel) hz T
  refine zr_tcase (dflt := 121) (lw := 0) (hi := 3) (offs := #[30, 52, 121, 58]) (len := 30) (off := 58) (j := 3) 3 64 C (by decide +kernel) (by decide) (by decide) rfl (by decide) hf (fun hf => ?_) (fun hn3 hf => ?_)
  · refine zr_aload_n 0 65 C (by decide +kernel) rfl rfl ?_
    refine zr_iload_n 2 66 C (by decide +kernel) rfl rfl ?_
    refine k_M_byHouses (idx := 293) 69 C (by decide +kernel) rfl q_1341 (zb2 rfl rfl) (Nat.le_of_ble_eq_true rfl) hf (fun r10 σ9 hf => ?_)
    refine zr_if_ne (off := 52) 121 72 C (by decide +kernel) (by decide) rfl hf (fun hf => ?_) (fun hf => ?_)
    · refine zr_less (zN (zN (zN zE))) ?_
      exact w_M_isIn_121 C T _ hf
    · refine zr_aload_n 0 73 C (by decide +kernel) rfl rfl ?_
      refine mg_0_49 (idx := 275) 76 C (by decide +kernel) rfl q_1040 ?_
      refine zr_aload_n 0 77 C (by decide +kernel) rfl rfl ?_
      refine mg_0_48 (idx := 272) 80 C (by decide +kernel) rfl q_1039 ?_
      refine zr_isub 81 C (by decide +kernel) rfl ?_
      refine zr_iconst (v := 2) 2 82 C (by decide +kernel) rfl rfl ?_
      refine zr_aload_n 0 83 C (by decide +kernel) rfl rfl ?_
      refine mg_0_6 (idx := 22) 86 C (by decide +kernel) rfl q_997 ?_
      refine zr_iload_n 1 87 C (by decide +kernel) rfl rfl ?_
      refine ml_5 88 C (by decide +kernel) rfl hf (fun hf => ?_)
      refine zr_imul 89 C (by decide +kernel) rfl ?_
      refine zr_icmp_gt (off := 36) 125 92 C (by decide +kernel) (by decide) rfl hf (fun hf => ?_) (fun hf => ?_)
      · refine zr_iconst (v := 0) 0 126 C (by decide +kernel) rfl rfl ?_
        obtain rfl := Option.some.inj hf
        exact zr_zret C (by decide +kernel) rfl T
      · refine zr_aload_n 0 93 C (by decide +kernel) rfl rfl ?_
        refine mg_0_51 (idx := 281) 96 C (by decide +kernel) rfl q_1042 ?_
        refine zr_aload_n 0 97 C (by decide +kernel) rfl rfl ?_
        refine mg_0_50 (idx := 278) 100 C (by decide +kernel) rfl q_1041 ?_
        refine zr_isub 101 C (by decide +kernel) rfl ?_
        refine zr_iconst (v := 2) 2 102 C (by decide +kernel) rfl rfl ?_
        refine zr_aload_n 0 103 C (by decide +kernel) rfl rfl ?_
        refine mg_0_6 (idx := 22) 106 C (by decide +kernel) rfl q_997 ?_
        refine zr_iload_n 1 107 C (by decide +kernel) rfl rfl ?_
        refine ml_5 108 C (by decide +kernel) rfl hf (fun hf => ?_)
        refine zr_imul 109 C (by decide +kernel) rfl ?_
        refine zr_icmp_gt (off := 16) 125 112 C (by decide +kernel) (by decide) rfl hf (fun hf => ?_) (fun hf => ?_)
        · refine zr_iconst (v := 0) 0 126 C (by decide +kernel) rfl rfl ?_
          obtain rfl := Option.some.inj hf
          exact zr_zret C (by decide +kernel) rfl T
        · refine zr_aload_n 0 113 C (by decide +kernel) rfl rfl ?_
          refine zr_iload_n 2 114 C (by decide +kernel) rfl rfl ?_
          refine zr_iconst (v := 0) 0 115 C (by decide +kernel) rfl rfl ?_
          refine k_M_isBox (idx := 296) 118 C (by decide +kernel) rfl q_1345 (zb2 rfl rfl) (Nat.le_of_ble_eq_true rfl) hf (fun r12 σ11 hf => ?_)
          refine zr_if_eq (off := 7) 125 121 C (by decide +kernel) (by decide) rfl hf (fun hf => ?_) (fun hf => ?_)
          · refine zr_iconst (v := 0) 0 126 C (by decide +kernel) rfl rfl ?_
            obtain rfl := Option.some.inj hf
            exact zr_zret C (by decide +kernel) rfl T
          · refine zr_less (zN (zN (zN zE))) ?_
            exact w_M_isIn_121 C T _ hf
  refine zr_tdflt (dflt := 121) (lw := 0) (hi := 3) (offs := #[30, 52, 121, 58]) (len := 30) 127 C (by decide +kernel) (by decide) (by decide) (fun j hj hx => ?_) ?_
  · rcases (show j = 0 ∨ j = 1 ∨ j = 2 ∨ j = 3 by have hj2 : j < 4 := hj; omega) with rfl | rfl | rfl | rfl
    · exact absurd (z_ti (c := 0) (by decide) hx) hn0
    · exact absurd (z_ti (c := 1) (by decide) hx) hn1
    · rfl
    · exact absurd (z_ti (c := 3) (by decide) hx) hn3
  refine zr_aload_n 0 128 C (by decide +kernel) rfl rfl ?_
  refine zr_iload_n 2 129 C (by decide +kernel) rfl rfl ?_
  refine zr_aload_n 0 130 C (by decide +kernel) rfl rfl ?_
  refine mg_0_46 (idx := 284) 133 C (by decide +kernel) rfl q_1037 ?_
  refine k_M_isBox (idx := 296) 136 C (by decide +kernel) rfl q_1345 (zb2 rfl rfl) (Nat.le_of_ble_eq_true rfl) hf (fun r2 σ1 hf => ?_)
  obtain ⟨hz, hf⟩ := zbo_some hf
  obtain rfl := Option.some.inj hf
  exact zr_zret C (by decide +kernel) hz T
theorem y_M_isIn : zY yX11_isIn cX11_isIn 3 (some .boolean) 2 := ⟨q_1340, q_90, by decide +kernel, by decide +kernel, by decide +kernel⟩
theorem k_M_isIn {l : Launch} {d : zD} {F : zF} {h : Nat → Nat} {σ : zS} {lv : List (Option Value)} {pc : Nat} {own : String} {cc : ByteArray} {nL fr lo idx : Nat} {rest : List Value} {β : Type} {kf : Int32 → zS → Option β} {o2 : β} {p1 : Int32} {p2 : Int32} (pc' : Nat) (C : zOk d F own cc nL fr lo) (hd : decode cc pc = .ok (.invokevirtual idx, 3)) (hp : pc + 3 = pc') (hq : Cond.methodLink own idx yX11_isIn ∈ zW) (hm : 3 + 1 ≤ fr ∧ 8 + (3 + 11) + 63 ≤ lo) (hr : (rest.map fun v => v.category).sum ≤ 8) (hf : zbd (f_M_isIn p1 p2 σ) kf = some o2) (K : ∀ (r : Int32) (σ' : zS), kf r σ' = some o2 → V l d F 0 0 (MW d h σ') lv pc' (.int r :: rest)) : V l d F 0 0 (MW d h σ) lv pc (.int p2 :: .int p1 :: .ref (h 0) :: rest) := by
  obtain ⟨q, h1, h2⟩ := zbd_some hf
  exact zr_callV y_M_isIn ⟨q_1339, q_59⟩ 0 rfl rfl (As := [.int p1, .int p2]) (m_M_isIn h1) rfl rfl pc' C hd hp hq hm hr (K _ _ h2)
/-! StepsBeyondModel.within(II)I -/
def f_M_within (p1 : Int32) (p2 : Int32) (σ : zS) : Option (Int32 × zS) :=
  zbd (f_M_isShape p1 σ) fun r2 σ1 =>
  (if r2 = 0 then
  some (-1, σ1)
  else
  zbd (f_M_isPlace p2 σ1) fun r4 σ3 =>
  (if r4 = 0 then
  some (-2, σ3)
  else
  zbd (f_M_looks p1 σ3) fun _ σ5 =>
  zbd (f_M_isIn p1 p2 σ5) fun r7 σ6 =>
  (if r7 = 0 then
  some (0, σ6)
  else
  some (1, σ6))))
set_option maxRecDepth 4000 in
theorem m_M_within {l : Launch} {d : zD} {h : Nat → Nat} {out : Int32 × zS} {σ : zS} {p1 : Int32} {p2 : Int32} (hf : f_M_within p1 p2 σ = some out) : zM l yX11_within cX11_within 3 (some .int) 7 162 d [.ref (h 0), .int p1, .int p2] (MW d h σ) (MW d h out.2) (some (.int out.1)) := by
  refine zM_of [some (.ref (h 0)), some (.int p1), some (.int p2)] (by decide +kernel) rfl (Nat.le_of_ble_eq_true rfl) (fun F C T => ?_)
  unfold f_M_within at hf
  refine zr_aload_n 0 1 C (by decide +kernel) rfl rfl ?_
  refine zr_iload_n 1 2 C (by decide +kernel) rfl rfl ?_
  refine k_M_isShape (idx := 263) 5 C (by decide +kernel) rfl q_1313 (zb2 rfl rfl) (Nat.le_of_ble_eq_true rfl) hf (fun r2 σ1 hf => ?_)
  refine zr_if_ne (off := 5) 10 8 C (by decide +kernel) (by decide) rfl hf (fun hf => ?_) (fun hf => ?_)
  · refine zr_iload_n 2 11 C (by decide +kernel) rfl rfl ?_
    refine k_M_isPlace (idx := 150) 14 C (by decide +kernel) rfl q_1178 (zb2 rfl rfl) (Nat.le_of_ble_eq_true rfl) hf (fun r4 σ3 hf => ?_)
    refine zr_if_ne (off := 6) 20 17 C (by decide +kernel) (by decide) rfl hf (fun hf => ?_) (fun hf => ?_)
    · refine zr_aload_n 0 21 C (by decide +kernel) rfl rfl ?_
      refine zr_iload_n 1 22 C (by decide +kernel) rfl rfl ?_
      refine k_M_looks (idx := 299) 25 C (by decide +kernel) rfl q_1329 (zb2 rfl rfl) (Nat.le_of_ble_eq_true rfl) hf (fun _ σ5 hf => ?_)
      refine zr_aload_n 0 26 C (by decide +kernel) rfl rfl ?_
      refine zr_iload_n 1 27 C (by decide +kernel) rfl rfl ?_
      refine zr_iload_n 2 28 C (by decide +kernel) rfl rfl ?_
      refine k_M_isIn (idx := 302) 31 C (by decide +kernel) rfl q_1337 (zb2 rfl rfl) (Nat.le_of_ble_eq_true rfl) hf (fun r7 σ6 hf => ?_)
      refine zr_if_eq (off := 7) 38 34 C (by decide +kernel) (by decide) rfl hf (fun hf => ?_) (fun hf => ?_)
      · refine zr_iconst (v := 0) 0 39 C (by decide +kernel) rfl rfl ?_
        obtain rfl := Option.some.inj hf
        exact zr_iret C (by decide +kernel) T
      · refine zr_iconst (v := 1) 1 35 C (by decide +kernel) rfl rfl ?_
        refine zr_goto (off := 4) 39 C (by decide +kernel) (by decide) ?_
        obtain rfl := Option.some.inj hf
        exact zr_iret C (by decide +kernel) T
    · refine zr_bipush (v := (-2)) (-2) 19 C (by decide +kernel) rfl rfl ?_
      obtain rfl := Option.some.inj hf
      exact zr_iret C (by decide +kernel) T
  · refine zr_iconst (v := (-1)) (-1) 9 C (by decide +kernel) rfl rfl ?_
    obtain rfl := Option.some.inj hf
    exact zr_iret C (by decide +kernel) T
theorem y_M_within : zY yX11_within cX11_within 3 (some .int) 2 := ⟨q_1328, q_90, by decide +kernel, by decide +kernel, by decide +kernel⟩
theorem k_M_within {l : Launch} {d : zD} {F : zF} {h : Nat → Nat} {σ : zS} {lv : List (Option Value)} {pc : Nat} {own : String} {cc : ByteArray} {nL fr lo idx : Nat} {rest : List Value} {β : Type} {kf : Int32 → zS → Option β} {o2 : β} {p1 : Int32} {p2 : Int32} (pc' : Nat) (C : zOk d F own cc nL fr lo) (hd : decode cc pc = .ok (.invokevirtual idx, 3)) (hp : pc + 3 = pc') (hq : Cond.methodLink own idx yX11_within ∈ zW) (hm : 7 + 1 ≤ fr ∧ 8 + (3 + 11) + 162 ≤ lo) (hr : (rest.map fun v => v.category).sum ≤ 8) (hf : zbd (f_M_within p1 p2 σ) kf = some o2) (K : ∀ (r : Int32) (σ' : zS), kf r σ' = some o2 → V l d F 0 0 (MW d h σ') lv pc' (.int r :: rest)) : V l d F 0 0 (MW d h σ) lv pc (.int p2 :: .int p1 :: .ref (h 0) :: rest) := by
  obtain ⟨q, h1, h2⟩ := zbd_some hf
  exact zr_callV y_M_within ⟨q_1326, q_1327⟩ 0 rfl rfl (As := [.int p1, .int p2]) (m_M_within h1) rfl rfl pc' C hd hp hq hm hr (K _ _ h2)
/-! StepsBeyondModel.marksOne(I)I -/
def f_M_marksOne_43 (k9 : Int32 → Int32 → Int32 → zS → Option (Int32 × zS)) (x1 : Int32) (x3 : Int32) (y0 : Int32) (y1 : Int32) (σ : zS) : Option (Int32 × zS) :=
  zlt (y0 + y1) fun v1 => 
  k9 x1 v1 (x3 + 1) σ
set_option maxRecDepth 4000 in
theorem w_M_marksOne_43 {l : Launch} {d : zD} {F : zF} {h : Nat → Nat} {out : Int32 × zS} {k9 : Int32 → Int32 → Int32 → zS → Option (Int32 × zS)} (C : zOk d F RX11 cX11_marksOne 4 7 162) (T : zRt d F (some .int) (some (.int out.1)) (MW d h out.2)) (H9 : ∀ (x1 : Int32) (x2 : Int32) (x3 : Int32) (σ : zS), k9 x1 x2 x3 σ = some out → V l d F 0 0 (MW d h σ) [some (.ref (h 0)), some (.int x1), some (.int x2), some (.int x3)] 9 []) (x1 : Int32) (x3 : Int32) (y0 : Int32) (y1 : Int32) (σ : zS) (hf : f_M_marksOne_43 k9 x1 x3 y0 y1 σ = some out) : V l d F 0 0 (MW d h σ) [some (.ref (h 0)), some (.int x1), none, some (.int x3)] 43 [.int y1, .int y0] := by
  unfold f_M_marksOne_43 at hf
  refine zr_iadd 44 C (by decide +kernel) rfl ?_
  refine zr_name hf (fun v1 hf => ?_)
  refine zr_istore_n 2 [some (.ref (h 0)), some (.int x1), some (.int v1), some (.int x3)] 45 C (by decide +kernel) rfl (by decide) rfl rfl ?_
  refine zr_iinc (j := 1) 3 [some (.ref (h 0)), some (.int x1), some (.int v1), some (.int (x3 + 1))] 48 C (by decide +kernel) rfl rfl rfl (by decide) rfl rfl ?_
  refine zr_goto (off := -39) 9 C (by decide +kernel) (by decide) ?_
  exact H9 _ _ _ _ hf
def f_M_marksOne_9b (k9 : Int32 → Int32 → Int32 → zS → Option (Int32 × zS)) (x1 : Int32) (x2 : Int32) (x3 : Int32) (σ : zS) : Option (Int32 × zS) :=
  (if 1600 ≤ x3 then
  some (x2, σ)
  else
  zbd (f_M_isIn x1 x3 σ) fun r2 σ1 =>
  zin x3 1600 (zlt (zsa σ1 26 x3 (vp_nar .boolean r2)) fun σ3 =>
  zin x3 1600 ((if (σ3.2 26 x3.toNatClampNeg) = 0 then
  f_M_marksOne_43 k9 x1 x3 x2 0 σ3
  else
  f_M_marksOne_43 k9 x1 x3 x2 1 σ3))))
set_option maxRecDepth 4000 in
theorem w_M_marksOne_9b {l : Launch} {d : zD} {F : zF} {h : Nat → Nat} {out : Int32 × zS} {k9 : Int32 → Int32 → Int32 → zS → Option (Int32 × zS)} (C : zOk d F RX11 cX11_marksOne 4 7 162) (T : zRt d F (some .int) (some (.int out.1)) (MW d h out.2)) (H9 : ∀ (x1 : Int32) (x2 : Int32) (x3 : Int32) (σ : zS), k9 x1 x2 x3 σ = some out → V l d F 0 0 (MW d h σ) [some (.ref (h 0)), some (.int x1), some (.int x2), some (.int x3)] 9 []) (x1 : Int32) (x2 : Int32) (x3 : Int32) (σ : zS) (hf : f_M_marksOne_9b k9 x1 x2 x3 σ = some out) : V l d F 0 0 (MW d h σ) [some (.ref (h 0)), some (.int x1), some (.int x2), some (.int x3)] 9 [] := by
  unfold f_M_marksOne_9b at hf
  refine zr_iload_n 3 10 C (by decide +kernel) rfl rfl ?_
  refine zr_sipush (v := 1600) 1600 13 C (by decide +kernel) rfl rfl ?_
  refine zr_icmp_ge (off := 38) 51 16 C (by decide +kernel) (by decide) rfl hf (fun hf => ?_) (fun hf => ?_)
  · refine zr_iload_n 2 52 C (by decide +kernel) rfl rfl ?_
    obtain rfl := Option.some.inj hf
    exact zr_iret C (by decide +kernel) T
  · refine zr_aload_n 0 17 C (by decide +kernel) rfl rfl ?_
    refine mg_0_52 (idx := 112) 20 C (by decide +kernel) rfl q_1043 ?_
    refine zr_iload_n 3 21 C (by decide +kernel) rfl rfl ?_
    refine zr_aload_n 0 22 C (by decide +kernel) rfl rfl ?_
    refine zr_iload_n 1 23 C (by decide +kernel) rfl rfl ?_
    refine zr_iload_n 3 24 C (by decide +kernel) rfl rfl ?_
    refine k_M_isIn (idx := 302) 27 C (by decide +kernel) rfl q_1337 (zb2 rfl rfl) (Nat.le_of_ble_eq_true rfl) hf (fun r2 σ1 hf => ?_)
    refine ms_26 28 C (by decide +kernel) rfl hf (fun σ3 hf => ?_)
    refine zr_iload_n 2 29 C (by decide +kernel) rfl rfl ?_
    refine zr_aload_n 0 30 C (by decide +kernel) rfl rfl ?_
    refine mg_0_52 (idx := 112) 33 C (by decide +kernel) rfl q_1043 ?_
    refine zr_iload_n 3 34 C (by decide +kernel) rfl rfl ?_
    refine ml_26 35 C (by decide +kernel) rfl hf (fun hf => ?_)
    refine zr_if_eq (off := 7) 42 38 C (by decide +kernel) (by decide) rfl hf (fun hf => ?_) (fun hf => ?_)
    · refine zr_iconst (v := 0) 0 43 C (by decide +kernel) rfl rfl ?_
      refine zr_less (zA (zA (zN (zA zE)))) ?_
      exact w_M_marksOne_43 C T H9 _ _ _ _ _ hf
    · refine zr_iconst (v := 1) 1 39 C (by decide +kernel) rfl rfl ?_
      refine zr_goto (off := 4) 43 C (by decide +kernel) (by decide) ?_
      refine zr_less (zA (zA (zN (zA zE)))) ?_
      exact w_M_marksOne_43 C T H9 _ _ _ _ _ hf
def f_M_marksOne_9  : Nat → Int32 → Int32 → Int32 → zS → Option (Int32 × zS)
  | 0, _, _, _, _ => none
  | n + 1, x1, x2, x3,  σ => f_M_marksOne_9b (fun x1 x2 x3 σ => f_M_marksOne_9  n x1 x2 x3 σ) x1 x2 x3 σ
theorem w_M_marksOne_9 {l : Launch} {d : zD} {F : zF} {h : Nat → Nat} {out : Int32 × zS}  (C : zOk d F RX11 cX11_marksOne 4 7 162) (T : zRt d F (some .int) (some (.int out.1)) (MW d h out.2))  : ∀ (n : Nat) (x1 : Int32) (x2 : Int32) (x3 : Int32) (σ : zS), f_M_marksOne_9  n x1 x2 x3 σ = some out → V l d F 0 0 (MW d h σ) [some (.ref (h 0)), some (.int x1), some (.int x2), some (.int x3)] 9 [] := by
  intro n
  induction n with
  | zero =>
    intro x1 x2 x3 σ hf
    cases hf
  | succ n ih =>
    intro x1 x2 x3 σ hf
    exact w_M_marksOne_9b C T ih x1 x2 x3 σ hf
def f_M_marksOne (p1 : Int32) (σ : zS) : Option (Int32 × zS) :=
  zbd (f_M_looks p1 σ) fun _ σ1 =>
  f_M_marksOne_9 zfu p1 0 0 σ1
set_option maxRecDepth 4000 in
theorem m_M_marksOne {l : Launch} {d : zD} {h : Nat → Nat} {out : Int32 × zS} {σ : zS} {p1 : Int32} (hf : f_M_marksOne p1 σ = some out) : zM l yX11_marksOne cX11_marksOne 4 (some .int) 7 162 d [.ref (h 0), .int p1] (MW d h σ) (MW d h out.2) (some (.int out.1)) := by
  refine zM_of [some (.ref (h 0)), some (.int p1), none, none] (by decide +kernel) rfl (Nat.le_of_ble_eq_true rfl) (fun F C T => ?_)
  unfold f_M_marksOne at hf
  refine zr_aload_n 0 1 C (by decide +kernel) rfl rfl ?_
  refine zr_iload_n 1 2 C (by decide +kernel) rfl rfl ?_
  refine k_M_looks (idx := 299) 5 C (by decide +kernel) rfl q_1329 (zb2 rfl rfl) (Nat.le_of_ble_eq_true rfl) hf (fun _ σ1 hf => ?_)
  refine zr_iconst (v := 0) 0 6 C (by decide +kernel) rfl rfl ?_
  refine zr_istore_n 2 [some (.ref (h 0)), some (.int p1), some (.int 0), none] 7 C (by decide +kernel) rfl (by decide) rfl rfl ?_
  refine zr_iconst (v := 0) 0 8 C (by decide +kernel) rfl rfl ?_
  refine zr_istore_n 3 [some (.ref (h 0)), some (.int p1), some (.int 0), some (.int 0)] 9 C (by decide +kernel) rfl (by decide) rfl rfl ?_
  exact w_M_marksOne_9 C T zfu _ _ _ _ hf
theorem y_M_marksOne : zY yX11_marksOne cX11_marksOne 4 (some .int) 1 := ⟨q_1356, q_90, by decide +kernel, by decide +kernel, by decide +kernel⟩
theorem k_M_marksOne {l : Launch} {d : zD} {F : zF} {h : Nat → Nat} {σ : zS} {lv : List (Option Value)} {pc : Nat} {own : String} {cc : ByteArray} {nL fr lo idx : Nat} {rest : List Value} {β : Type} {kf : Int32 → zS → Option β} {o2 : β} {p1 : Int32} (pc' : Nat) (C : zOk d F own cc nL fr lo) (hd : decode cc pc = .ok (.invokevirtual idx, 3)) (hp : pc + 3 = pc') (hq : Cond.methodLink own idx yX11_marksOne ∈ zW) (hm : 7 + 1 ≤ fr ∧ 8 + (4 + 11) + 162 ≤ lo) (hr : (rest.map fun v => v.category).sum ≤ 8) (hf : zbd (f_M_marksOne p1 σ) kf = some o2) (K : ∀ (r : Int32) (σ' : zS), kf r σ' = some o2 → V l d F 0 0 (MW d h σ') lv pc' (.int r :: rest)) : V l d F 0 0 (MW d h σ) lv pc (.int p1 :: .ref (h 0) :: rest) := by
  obtain ⟨q, h1, h2⟩ := zbd_some hf
  exact zr_callV y_M_marksOne ⟨q_1355, q_62⟩ 0 rfl rfl (As := [.int p1]) (m_M_marksOne h1) rfl rfl pc' C hd hp hq hm hr (K _ _ h2)
/-! StepsBeyondModel.marksOther(I)V -/
def f_M_marksOther_7b (k7 : Int32 → Int32 → zS → Option (Int32 × zS)) (x1 : Int32) (x2 : Int32) (σ : zS) : Option (Int32 × zS) :=
  (if 1600 ≤ x2 then
  some (0, σ)
  else
  zbd (f_M_isIn x1 x2 σ) fun r2 σ1 =>
  zin x2 1600 (zlt (zsa σ1 27 x2 (vp_nar .boolean r2)) fun σ3 =>
  k7 x1 (x2 + 1) σ3))
set_option maxRecDepth 4000 in
theorem w_M_marksOther_7b {l : Launch} {d : zD} {F : zF} {h : Nat → Nat} {out : Int32 × zS} {k7 : Int32 → Int32 → zS → Option (Int32 × zS)} (C : zOk d F RX11 cX11_marksOther 3 7 162) (T : zRt d F none none (MW d h out.2)) (H7 : ∀ (x1 : Int32) (x2 : Int32) (σ : zS), k7 x1 x2 σ = some out → V l d F 0 0 (MW d h σ) [some (.ref (h 0)), some (.int x1), some (.int x2)] 7 []) (x1 : Int32) (x2 : Int32) (σ : zS) (hf : f_M_marksOther_7b k7 x1 x2 σ = some out) : V l d F 0 0 (MW d h σ) [some (.ref (h 0)), some (.int x1), some (.int x2)] 7 [] := by
  unfold f_M_marksOther_7b at hf
  refine zr_iload_n 2 8 C (by decide +kernel) rfl rfl ?_
  refine zr_sipush (v := 1600) 1600 11 C (by decide +kernel) rfl rfl ?_
  refine zr_icmp_ge (off := 21) 32 14 C (by decide +kernel) (by decide) rfl hf (fun hf => ?_) (fun hf => ?_)
  · obtain rfl := Option.some.inj hf
    exact zr_vret C (by decide +kernel) T
  · refine zr_aload_n 0 15 C (by decide +kernel) rfl rfl ?_
    refine mg_0_53 (idx := 116) 18 C (by decide +kernel) rfl q_1044 ?_
    refine zr_iload_n 2 19 C (by decide +kernel) rfl rfl ?_
    refine zr_aload_n 0 20 C (by decide +kernel) rfl rfl ?_
    refine zr_iload_n 1 21 C (by decide +kernel) rfl rfl ?_
    refine zr_iload_n 2 22 C (by decide +kernel) rfl rfl ?_
    refine k_M_isIn (idx := 302) 25 C (by decide +kernel) rfl q_1337 (zb2 rfl rfl) (Nat.le_of_ble_eq_true rfl) hf (fun r2 σ1 hf => ?_)
    refine ms_27 26 C (by decide +kernel) rfl hf (fun σ3 hf => ?_)
    refine zr_iinc (j := 1) 2 [some (.ref (h 0)), some (.int x1), some (.int (x2 + 1))] 29 C (by decide +kernel) rfl rfl rfl (by decide) rfl rfl ?_
    refine zr_goto (off := -22) 7 C (by decide +kernel) (by decide) ?_
    exact H7 _ _ _ hf
def f_M_marksOther_7  : Nat → Int32 → Int32 → zS → Option (Int32 × zS)
  | 0, _, _, _ => none
  | n + 1, x1, x2,  σ => f_M_marksOther_7b (fun x1 x2 σ => f_M_marksOther_7  n x1 x2 σ) x1 x2 σ
theorem w_M_marksOther_7 {l : Launch} {d : zD} {F : zF} {h : Nat → Nat} {out : Int32 × zS}  (C : zOk d F RX11 cX11_marksOther 3 7 162) (T : zRt d F none none (MW d h out.2))  : ∀ (n : Nat) (x1 : Int32) (x2 : Int32) (σ : zS), f_M_marksOther_7  n x1 x2 σ = some out → V l d F 0 0 (MW d h σ) [some (.ref (h 0)), some (.int x1), some (.int x2)] 7 [] := by
  intro n
  induction n with
  | zero =>
    intro x1 x2 σ hf
    cases hf
  | succ n ih =>
    intro x1 x2 σ hf
    exact w_M_marksOther_7b C T ih x1 x2 σ hf
def f_M_marksOther (p1 : Int32) (σ : zS) : Option (Int32 × zS) :=
  zbd (f_M_looks p1 σ) fun _ σ1 =>
  f_M_marksOther_7 zfu p1 0 σ1
set_option maxRecDepth 4000 in
theorem m_M_marksOther {l : Launch} {d : zD} {h : Nat → Nat} {out : Int32 × zS} {σ : zS} {p1 : Int32} (hf : f_M_marksOther p1 σ = some out) : zM l yX11_marksOther cX11_marksOther 3 none 7 162 d [.ref (h 0), .int p1] (MW d h σ) (MW d h out.2) none := by
  refine zM_of [some (.ref (h 0)), some (.int p1), none] (by decide +kernel) rfl (Nat.le_of_ble_eq_true rfl) (fun F C T => ?_)
  unfold f_M_marksOther at hf
  refine zr_aload_n 0 1 C (by decide +kernel) rfl rfl ?_
  refine zr_iload_n 1 2 C (by decide +kernel) rfl rfl ?_
  refine k_M_looks (idx := 299) 5 C (by decide +kernel) rfl q_1329 (zb2 rfl rfl) (Nat.le_of_ble_eq_true rfl) hf (fun _ σ1 hf => ?_)
  refine zr_iconst (v := 0) 0 6 C (by decide +kernel) rfl rfl ?_
  refine zr_istore_n 2 [some (.ref (h 0)), some (.int p1), some (.int 0)] 7 C (by decide +kernel) rfl (by decide) rfl rfl ?_
  exact w_M_marksOther_7 C T zfu _ _ _ hf
theorem y_M_marksOther : zY yX11_marksOther cX11_marksOther 3 none 1 := ⟨q_1364, q_90, by decide +kernel, by decide +kernel, by decide +kernel⟩
theorem k_M_marksOther {l : Launch} {d : zD} {F : zF} {h : Nat → Nat} {σ : zS} {lv : List (Option Value)} {pc : Nat} {own : String} {cc : ByteArray} {nL fr lo idx : Nat} {rest : List Value} {β : Type} {kf : Int32 → zS → Option β} {o2 : β} {p1 : Int32} (pc' : Nat) (C : zOk d F own cc nL fr lo) (hd : decode cc pc = .ok (.invokevirtual idx, 3)) (hp : pc + 3 = pc') (hq : Cond.methodLink own idx yX11_marksOther ∈ zW) (hm : 7 + 1 ≤ fr ∧ 8 + (3 + 11) + 162 ≤ lo) (hr : (rest.map fun v => v.category).sum ≤ 8) (hf : zbd (f_M_marksOther p1 σ) kf = some o2) (K : ∀ (r : Int32) (σ' : zS), kf r σ' = some o2 → V l d F 0 0 (MW d h σ') lv pc' (rest)) : V l d F 0 0 (MW d h σ) lv pc (.int p1 :: .ref (h 0) :: rest) := by
  obtain ⟨q, h1, h2⟩ := zbd_some hf
  exact zr_callV y_M_marksOther ⟨q_1363, q_63⟩ 0 rfl rfl (As := [.int p1]) (m_M_marksOther h1) rfl rfl pc' C hd hp hq hm hr (K _ _ h2)
/-! StepsBeyondModel.size(I)I -/
def f_M_size (p1 : Int32) (σ : zS) : Option (Int32 × zS) :=
  zbd (f_M_isShape p1 σ) fun r2 σ1 =>
  (if r2 = 0 then
  some (-1, σ1)
  else
  zbd (f_M_marksOne p1 σ1) fun r4 σ3 =>
  some (r4, σ3))
set_option maxRecDepth 4000 in
theorem m_M_size {l : Launch} {d : zD} {h : Nat → Nat} {out : Int32 × zS} {σ : zS} {p1 : Int32} (hf : f_M_size p1 σ = some out) : zM l yX11_size cX11_size 2 (some .int) 8 185 d [.ref (h 0), .int p1] (MW d h σ) (MW d h out.2) (some (.int out.1)) := by
  refine zM_of [some (.ref (h 0)), some (.int p1)] (by decide +kernel) rfl (Nat.le_of_ble_eq_true rfl) (fun F C T => ?_)
  unfold f_M_size at hf
  refine zr_aload_n 0 1 C (by decide +kernel) rfl rfl ?_
  refine zr_iload_n 1 2 C (by decide +kernel) rfl rfl ?_
  refine k_M_isShape (idx := 263) 5 C (by decide +kernel) rfl q_1313 (zb2 rfl rfl) (Nat.le_of_ble_eq_true rfl) hf (fun r2 σ1 hf => ?_)
  refine zr_if_eq (off := 11) 16 8 C (by decide +kernel) (by decide) rfl hf (fun hf => ?_) (fun hf => ?_)
  · refine zr_iconst (v := (-1)) (-1) 17 C (by decide +kernel) rfl rfl ?_
    obtain rfl := Option.some.inj hf
    exact zr_iret C (by decide +kernel) T
  · refine zr_aload_n 0 9 C (by decide +kernel) rfl rfl ?_
    refine zr_iload_n 1 10 C (by decide +kernel) rfl rfl ?_
    refine k_M_marksOne (idx := 305) 13 C (by decide +kernel) rfl q_1353 (zb2 rfl rfl) (Nat.le_of_ble_eq_true rfl) hf (fun r4 σ3 hf => ?_)
    refine zr_goto (off := 4) 17 C (by decide +kernel) (by decide) ?_
    obtain rfl := Option.some.inj hf
    exact zr_iret C (by decide +kernel) T
theorem y_M_size : zY yX11_size cX11_size 2 (some .int) 1 := ⟨q_1352, q_90, by decide +kernel, by decide +kernel, by decide +kernel⟩
theorem k_M_size {l : Launch} {d : zD} {F : zF} {h : Nat → Nat} {σ : zS} {lv : List (Option Value)} {pc : Nat} {own : String} {cc : ByteArray} {nL fr lo idx : Nat} {rest : List Value} {β : Type} {kf : Int32 → zS → Option β} {o2 : β} {p1 : Int32} (pc' : Nat) (C : zOk d F own cc nL fr lo) (hd : decode cc pc = .ok (.invokevirtual idx, 3)) (hp : pc + 3 = pc') (hq : Cond.methodLink own idx yX11_size ∈ zW) (hm : 8 + 1 ≤ fr ∧ 8 + (2 + 11) + 185 ≤ lo) (hr : (rest.map fun v => v.category).sum ≤ 8) (hf : zbd (f_M_size p1 σ) kf = some o2) (K : ∀ (r : Int32) (σ' : zS), kf r σ' = some o2 → V l d F 0 0 (MW d h σ') lv pc' (.int r :: rest)) : V l d F 0 0 (MW d h σ) lv pc (.int p1 :: .ref (h 0) :: rest) := by
  obtain ⟨q, h1, h2⟩ := zbd_some hf
  exact zr_callV y_M_size ⟨q_1350, q_1351⟩ 0 rfl rfl (As := [.int p1]) (m_M_size h1) rfl rfl pc' C hd hp hq hm hr (K _ _ h2)
/-! StepsBeyondModel.both(III)I -/
def f_M_both_118 (k47 : Int32 → Int32 → Int32 → zS → Option (Int32 × zS)) (x3 : Int32) (x5 : Int32) (y0 : Int32) (y1 : Int32) (σ : zS) : Option (Int32 × zS) :=
  zlt (y0 + y1) fun v1 => 
  k47 x3 v1 (x5 + 1) σ
set_option maxRecDepth 4000 in
theorem w_M_both_118 {l : Launch} {d : zD} {F : zF} {h : Nat → Nat} {out : Int32 × zS} {k47 : Int32 → Int32 → Int32 → zS → Option (Int32 × zS)} (C : zOk d F RX11 cX11_both 6 8 185) (T : zRt d F (some .int) (some (.int out.1)) (MW d h out.2)) (H47 : ∀ (x3 : Int32) (x4 : Int32) (x5 : Int32) (σ : zS), k47 x3 x4 x5 σ = some out → V l d F 0 0 (MW d h σ) [some (.ref (h 0)), none, none, some (.int x3), some (.int x4), some (.int x5)] 47 []) (x3 : Int32) (x5 : Int32) (y0 : Int32) (y1 : Int32) (σ : zS) (hf : f_M_both_118 k47 x3 x5 y0 y1 σ = some out) : V l d F 0 0 (MW d h σ) [some (.ref (h 0)), none, none, some (.int x3), none, some (.int x5)] 118 [.int y1, .int y0] := by
  unfold f_M_both_118 at hf
  refine zr_iadd 119 C (by decide +kernel) rfl ?_
  refine zr_name hf (fun v1 hf => ?_)
  refine zr_istore 4 [some (.ref (h 0)), none, none, some (.int x3), some (.int v1), some (.int x5)] 121 C (by decide +kernel) rfl (by decide) rfl rfl ?_
  refine zr_iinc (j := 1) 5 [some (.ref (h 0)), none, none, some (.int x3), some (.int v1), some (.int (x5 + 1))] 124 C (by decide +kernel) rfl rfl rfl (by decide) rfl rfl ?_
  refine zr_goto (off := -77) 47 C (by decide +kernel) (by decide) ?_
  exact H47 _ _ _ _ hf
def f_M_both_117 (k47 : Int32 → Int32 → Int32 → zS → Option (Int32 × zS)) (x3 : Int32) (x5 : Int32) (y0 : Int32) (σ : zS) : Option (Int32 × zS) :=
  f_M_both_118 k47 x3 x5 y0 0 σ
set_option maxRecDepth 4000 in
theorem w_M_both_117 {l : Launch} {d : zD} {F : zF} {h : Nat → Nat} {out : Int32 × zS} {k47 : Int32 → Int32 → Int32 → zS → Option (Int32 × zS)} (C : zOk d F RX11 cX11_both 6 8 185) (T : zRt d F (some .int) (some (.int out.1)) (MW d h out.2)) (H47 : ∀ (x3 : Int32) (x4 : Int32) (x5 : Int32) (σ : zS), k47 x3 x4 x5 σ = some out → V l d F 0 0 (MW d h σ) [some (.ref (h 0)), none, none, some (.int x3), some (.int x4), some (.int x5)] 47 []) (x3 : Int32) (x5 : Int32) (y0 : Int32) (σ : zS) (hf : f_M_both_117 k47 x3 x5 y0 σ = some out) : V l d F 0 0 (MW d h σ) [some (.ref (h 0)), none, none, some (.int x3), none, some (.int x5)] 117 [.int y0] := by
  unfold f_M_both_117 at hf
  refine zr_iconst (v := 0) 0 118 C (by decide +kernel) rfl rfl ?_
  exact w_M_both_118 C T H47 _ _ _ _ _ hf
def f_M_both_113 (k47 : Int32 → Int32 → Int32 → zS → Option (Int32 × zS)) (x3 : Int32) (x5 : Int32) (y0 : Int32) (σ : zS) : Option (Int32 × zS) :=
  f_M_both_118 k47 x3 x5 y0 1 σ
set_option maxRecDepth 4000 in
theorem w_M_both_113 {l : Launch} {d : zD} {F : zF} {h : Nat → Nat} {out : Int32 × zS} {k47 : Int32 → Int32 → Int32 → zS → Option (Int32 × zS)} (C : zOk d F RX11 cX11_both 6 8 185) (T : zRt d F (some .int) (some (.int out.1)) (MW d h out.2)) (H47 : ∀ (x3 : Int32) (x4 : Int32) (x5 : Int32) (σ : zS), k47 x3 x4 x5 σ = some out → V l d F 0 0 (MW d h σ) [some (.ref (h 0)), none, none, some (.int x3), some (.int x4), some (.int x5)] 47 []) (x3 : Int32) (x5 : Int32) (y0 : Int32) (σ : zS) (hf : f_M_both_113 k47 x3 x5 y0 σ = some out) : V l d F 0 0 (MW d h σ) [some (.ref (h 0)), none, none, some (.int x3), none, some (.int x5)] 113 [.int y0] := by
  unfold f_M_both_113 at hf
  refine zr_iconst (v := 1) 1 114 C (by decide +kernel) rfl rfl ?_
  refine zr_goto (off := 4) 118 C (by decide +kernel) (by decide) ?_
  exact w_M_both_118 C T H47 _ _ _ _ _ hf
def f_M_both_85 (k47 : Int32 → Int32 → Int32 → zS → Option (Int32 × zS)) (x3 : Int32) (x5 : Int32) (y0 : Int32) (σ : zS) : Option (Int32 × zS) :=
  (if x3 = 1 then
  zin x5 1600 ((if (σ.2 27 x5.toNatClampNeg) = 0 then
  f_M_both_113 k47 x3 x5 y0 σ
  else
  f_M_both_117 k47 x3 x5 y0 σ))
  else
  zin x5 1600 ((if (σ.2 27 x5.toNatClampNeg) = 0 then
  f_M_both_117 k47 x3 x5 y0 σ
  else
  f_M_both_113 k47 x3 x5 y0 σ)))
set_option maxRecDepth 4000 in
theorem w_M_both_85 {l : Launch} {d : zD} {F : zF} {h : Nat → Nat} {out : Int32 × zS} {k47 : Int32 → Int32 → Int32 → zS → Option (Int32 × zS)} (C : zOk d F RX11 cX11_both 6 8 185) (T : zRt d F (some .int) (some (.int out.1)) (MW d h out.2)) (H47 : ∀ (x3 : Int32) (x4 : Int32) (x5 : Int32) (σ : zS), k47 x3 x4 x5 σ = some out → V l d F 0 0 (MW d h σ) [some (.ref (h 0)), none, none, some (.int x3), some (.int x4), some (.int x5)] 47 []) (x3 : Int32) (x5 : Int32) (y0 : Int32) (σ : zS) (hf : f_M_both_85 k47 x3 x5 y0 σ = some out) : V l d F 0 0 (MW d h σ) [some (.ref (h 0)), none, none, some (.int x3), none, some (.int x5)] 85 [.int y0] := by
  unfold f_M_both_85 at hf
  refine zr_iload_n 3 86 C (by decide +kernel) rfl rfl ?_
  refine zr_iconst (v := 1) 1 87 C (by decide +kernel) rfl rfl ?_
  refine zr_icmp_ne (off := 16) 103 90 C (by decide +kernel) (by decide) rfl hf (fun hf => ?_) (fun hf => ?_)
  · refine zr_aload_n 0 104 C (by decide +kernel) rfl rfl ?_
    refine mg_0_53 (idx := 116) 107 C (by decide +kernel) rfl q_1044 ?_
    refine zr_iload 5 109 C (by decide +kernel) rfl rfl ?_
    refine ml_27 110 C (by decide +kernel) rfl hf (fun hf => ?_)
    refine zr_if_eq (off := 7) 117 113 C (by decide +kernel) (by decide) rfl hf (fun hf => ?_) (fun hf => ?_)
    · exact w_M_both_117 C T H47 _ _ _ _ hf
    · exact w_M_both_113 C T H47 _ _ _ _ hf
  · refine zr_aload_n 0 91 C (by decide +kernel) rfl rfl ?_
    refine mg_0_53 (idx := 116) 94 C (by decide +kernel) rfl q_1044 ?_
    refine zr_iload 5 96 C (by decide +kernel) rfl rfl ?_
    refine ml_27 97 C (by decide +kernel) rfl hf (fun hf => ?_)
    refine zr_if_ne (off := 20) 117 100 C (by decide +kernel) (by decide) rfl hf (fun hf => ?_) (fun hf => ?_)
    · exact w_M_both_117 C T H47 _ _ _ _ hf
    · refine zr_goto (off := 13) 113 C (by decide +kernel) (by decide) ?_
      exact w_M_both_113 C T H47 _ _ _ _ hf
def f_M_both_47b (k47 : Int32 → Int32 → Int32 → zS → Option (Int32 × zS)) (x3 : Int32) (x4 : Int32) (x5 : Int32) (σ : zS) : Option (Int32 × zS) :=
  (if 1600 ≤ x5 then
  some (x4, σ)
  else
  (if x3 = 2 then
  zin x5 1600 ((if (σ.2 26 x5.toNatClampNeg) = 0 then
  f_M_both_85 k47 x3 x5 x4 σ
  else
  f_M_both_117 k47 x3 x5 x4 σ))
  else
  zin x5 1600 ((if (σ.2 26 x5.toNatClampNeg) = 0 then
  f_M_both_117 k47 x3 x5 x4 σ
  else
  f_M_both_85 k47 x3 x5 x4 σ))))
set_option maxRecDepth 4000 in
theorem w_M_both_47b {l : Launch} {d : zD} {F : zF} {h : Nat → Nat} {out : Int32 × zS} {k47 : Int32 → Int32 → Int32 → zS → Option (Int32 × zS)} (C : zOk d F RX11 cX11_both 6 8 185) (T : zRt d F (some .int) (some (.int out.1)) (MW d h out.2)) (H47 : ∀ (x3 : Int32) (x4 : Int32) (x5 : Int32) (σ : zS), k47 x3 x4 x5 σ = some out → V l d F 0 0 (MW d h σ) [some (.ref (h 0)), none, none, some (.int x3), some (.int x4), some (.int x5)] 47 []) (x3 : Int32) (x4 : Int32) (x5 : Int32) (σ : zS) (hf : f_M_both_47b k47 x3 x4 x5 σ = some out) : V l d F 0 0 (MW d h σ) [some (.ref (h 0)), none, none, some (.int x3), some (.int x4), some (.int x5)] 47 [] := by
  unfold f_M_both_47b at hf
  refine zr_iload 5 49 C (by decide +kernel) rfl rfl ?_
  refine zr_sipush (v := 1600) 1600 52 C (by decide +kernel) rfl rfl ?_
  refine zr_icmp_ge (off := 75) 127 55 C (by decide +kernel) (by decide) rfl hf (fun hf => ?_) (fun hf => ?_)
  · refine zr_iload 4 129 C (by decide +kernel) rfl rfl ?_
    obtain rfl := Option.some.inj hf
    exact zr_iret C (by decide +kernel) T
  · refine zr_iload 4 57 C (by decide +kernel) rfl rfl ?_
    refine zr_iload_n 3 58 C (by decide +kernel) rfl rfl ?_
    refine zr_iconst (v := 2) 2 59 C (by decide +kernel) rfl rfl ?_
    refine zr_icmp_ne (off := 16) 75 62 C (by decide +kernel) (by decide) rfl hf (fun hf => ?_) (fun hf => ?_)
    · refine zr_aload_n 0 76 C (by decide +kernel) rfl rfl ?_
      refine mg_0_52 (idx := 112) 79 C (by decide +kernel) rfl q_1043 ?_
      refine zr_iload 5 81 C (by decide +kernel) rfl rfl ?_
      refine ml_26 82 C (by decide +kernel) rfl hf (fun hf => ?_)
      refine zr_if_eq (off := 35) 117 85 C (by decide +kernel) (by decide) rfl hf (fun hf => ?_) (fun hf => ?_)
      · refine zr_less (zA (zN (zN (zA (zN (zA zE)))))) ?_
        exact w_M_both_117 C T H47 _ _ _ _ hf
      · refine zr_less (zA (zN (zN (zA (zN (zA zE)))))) ?_
        exact w_M_both_85 C T H47 _ _ _ _ hf
    · refine zr_aload_n 0 63 C (by decide +kernel) rfl rfl ?_
      refine mg_0_52 (idx := 112) 66 C (by decide +kernel) rfl q_1043 ?_
      refine zr_iload 5 68 C (by decide +kernel) rfl rfl ?_
      refine ml_26 69 C (by decide +kernel) rfl hf (fun hf => ?_)
      refine zr_if_ne (off := 48) 117 72 C (by decide +kernel) (by decide) rfl hf (fun hf => ?_) (fun hf => ?_)
      · refine zr_less (zA (zN (zN (zA (zN (zA zE)))))) ?_
        exact w_M_both_117 C T H47 _ _ _ _ hf
      · refine zr_goto (off := 13) 85 C (by decide +kernel) (by decide) ?_
        refine zr_less (zA (zN (zN (zA (zN (zA zE)))))) ?_
        exact w_M_both_85 C T H47 _ _ _ _ hf
def f_M_both_47  : Nat → Int32 → Int32 → Int32 → zS → Option (Int32 × zS)
  | 0, _, _, _, _ => none
  | n + 1, x3, x4, x5,  σ => f_M_both_47b (fun x3 x4 x5 σ => f_M_both_47  n x3 x4 x5 σ) x3 x4 x5 σ
theorem w_M_both_47 {l : Launch} {d : zD} {F : zF} {h : Nat → Nat} {out : Int32 × zS}  (C : zOk d F RX11 cX11_both 6 8 185) (T : zRt d F (some .int) (some (.int out.1)) (MW d h out.2))  : ∀ (n : Nat) (x3 : Int32) (x4 : Int32) (x5 : Int32) (σ : zS), f_M_both_47  n x3 x4 x5 σ = some out → V l d F 0 0 (MW d h σ) [some (.ref (h 0)), none, none, some (.int x3), some (.int x4), some (.int x5)] 47 [] := by
  intro n
  induction n with
  | zero =>
    intro x3 x4 x5 σ hf
    cases hf
  | succ n ih =>
    intro x3 x4 x5 σ hf
    exact w_M_both_47b C T ih x3 x4 x5 σ hf
def f_M_both (p1 : Int32) (p2 : Int32) (p3 : Int32) (σ : zS) : Option (Int32 × zS) :=
  zbd (f_M_isShape p1 σ) fun r2 σ1 =>
  (if r2 = 0 then
  some (-1, σ1)
  else
  zbd (f_M_isShape p2 σ1) fun r4 σ3 =>
  (if r4 = 0 then
  some (-1, σ3)
  else
  zbd (f_M_in p3 0 2 σ3) fun r6 σ5 =>
  (if r6 = 0 then
  some (-2, σ5)
  else
  zbd (f_M_marksOne p1 σ5) fun r8 σ7 =>
  zbd (f_M_marksOther p2 σ7) fun _ σ9 =>
  f_M_both_47 zfu p3 0 0 σ9)))
set_option maxRecDepth 4000 in
theorem m_M_both {l : Launch} {d : zD} {h : Nat → Nat} {out : Int32 × zS} {σ : zS} {p1 : Int32} {p2 : Int32} {p3 : Int32} (hf : f_M_both p1 p2 p3 σ = some out) : zM l yX11_both cX11_both 6 (some .int) 8 185 d [.ref (h 0), .int p1, .int p2, .int p3] (MW d h σ) (MW d h out.2) (some (.int out.1)) := by
  refine zM_of [some (.ref (h 0)), some (.int p1), some (.int p2), some (.int p3), none, none] (by decide +kernel) rfl (Nat.le_of_ble_eq_true rfl) (fun F C T => ?_)
  unfold f_M_both at hf
  refine zr_aload_n 0 1 C (by decide +kernel) rfl rfl ?_
  refine zr_iload_n 1 2 C (by decide +kernel) rfl rfl ?_
  refine k_M_isShape (idx := 263) 5 C (by decide +kernel) rfl q_1313 (zb2 rfl rfl) (Nat.le_of_ble_eq_true rfl) hf (fun r2 σ1 hf => ?_)
  refine zr_if_eq (off := 11) 16 8 C (by decide +kernel) (by decide) rfl hf (fun hf => ?_) (fun hf => ?_)
  · refine zr_iconst (v := (-1)) (-1) 17 C (by decide +kernel) rfl rfl ?_
    obtain rfl := Option.some.inj hf
    exact zr_iret C (by decide +kernel) T
  · refine zr_aload_n 0 9 C (by decide +kernel) rfl rfl ?_
    refine zr_iload_n 2 10 C (by decide +kernel) rfl rfl ?_
    refine k_M_isShape (idx := 263) 13 C (by decide +kernel) rfl q_1313 (zb2 rfl rfl) (Nat.le_of_ble_eq_true rfl) hf (fun r4 σ3 hf => ?_)
    refine zr_if_ne (off := 5) 18 16 C (by decide +kernel) (by decide) rfl hf (fun hf => ?_) (fun hf => ?_)
    · refine zr_iload_n 3 19 C (by decide +kernel) rfl rfl ?_
      refine zr_iconst (v := 0) 0 20 C (by decide +kernel) rfl rfl ?_
      refine zr_iconst (v := 2) 2 21 C (by decide +kernel) rfl rfl ?_
      refine k_M_in (idx := 139) 24 C (by decide +kernel) rfl q_1181 (zb2 rfl rfl) (Nat.le_of_ble_eq_true rfl) hf (fun r6 σ5 hf => ?_)
      refine zr_if_ne (off := 6) 30 27 C (by decide +kernel) (by decide) rfl hf (fun hf => ?_) (fun hf => ?_)
      · refine zr_aload_n 0 31 C (by decide +kernel) rfl rfl ?_
        refine zr_iload_n 1 32 C (by decide +kernel) rfl rfl ?_
        refine k_M_marksOne (idx := 305) 35 C (by decide +kernel) rfl q_1353 (zb2 rfl rfl) (Nat.le_of_ble_eq_true rfl) hf (fun r8 σ7 hf => ?_)
        refine zr_pop 36 C (by decide +kernel) rfl rfl ?_
        refine zr_aload_n 0 37 C (by decide +kernel) rfl rfl ?_
        refine zr_iload_n 2 38 C (by decide +kernel) rfl rfl ?_
        refine k_M_marksOther (idx := 308) 41 C (by decide +kernel) rfl q_1361 (zb2 rfl rfl) (Nat.le_of_ble_eq_true rfl) hf (fun _ σ9 hf => ?_)
        refine zr_iconst (v := 0) 0 42 C (by decide +kernel) rfl rfl ?_
        refine zr_istore 4 [some (.ref (h 0)), some (.int p1), some (.int p2), some (.int p3), some (.int 0), none] 44 C (by decide +kernel) rfl (by decide) rfl rfl ?_
        refine zr_iconst (v := 0) 0 45 C (by decide +kernel) rfl rfl ?_
        refine zr_istore 5 [some (.ref (h 0)), some (.int p1), some (.int p2), some (.int p3), some (.int 0), some (.int 0)] 47 C (by decide +kernel) rfl (by decide) rfl rfl ?_
        refine zr_less (zA (zN (zN (zA (zA (zA zE)))))) ?_
        exact w_M_both_47 C T zfu _ _ _ _ hf
      · refine zr_bipush (v := (-2)) (-2) 29 C (by decide +kernel) rfl rfl ?_
        obtain rfl := Option.some.inj hf
        exact zr_iret C (by decide +kernel) T
    · refine zr_iconst (v := (-1)) (-1) 17 C (by decide +kernel) rfl rfl ?_
      obtain rfl := Option.some.inj hf
      exact zr_iret C (by decide +kernel) T
theorem y_M_both : zY yX11_both cX11_both 6 (some .int) 3 := ⟨q_1360, q_90, by decide +kernel, by decide +kernel, by decide +kernel⟩
theorem k_M_both {l : Launch} {d : zD} {F : zF} {h : Nat → Nat} {σ : zS} {lv : List (Option Value)} {pc : Nat} {own : String} {cc : ByteArray} {nL fr lo idx : Nat} {rest : List Value} {β : Type} {kf : Int32 → zS → Option β} {o2 : β} {p1 : Int32} {p2 : Int32} {p3 : Int32} (pc' : Nat) (C : zOk d F own cc nL fr lo) (hd : decode cc pc = .ok (.invokevirtual idx, 3)) (hp : pc + 3 = pc') (hq : Cond.methodLink own idx yX11_both ∈ zW) (hm : 8 + 1 ≤ fr ∧ 8 + (6 + 11) + 185 ≤ lo) (hr : (rest.map fun v => v.category).sum ≤ 8) (hf : zbd (f_M_both p1 p2 p3 σ) kf = some o2) (K : ∀ (r : Int32) (σ' : zS), kf r σ' = some o2 → V l d F 0 0 (MW d h σ') lv pc' (.int r :: rest)) : V l d F 0 0 (MW d h σ) lv pc (.int p3 :: .int p2 :: .int p1 :: .ref (h 0) :: rest) := by
  obtain ⟨q, h1, h2⟩ := zbd_some hf
  exact zr_callV y_M_both ⟨q_1358, q_1359⟩ 0 rfl rfl (As := [.int p1, .int p2, .int p3]) (m_M_both h1) rfl rfl pc' C hd hp hq hm hr (K _ _ h2)
/-! StepsBeyondModel.laid(II)I -/
def f_M_laid_87 (k42 : Int32 → Int32 → Int32 → zS → Option (Int32 × zS)) (x2 : Int32) (x3 : Int32) (x4 : Int32) (σ : zS) : Option (Int32 × zS) :=
  k42 x2 x3 (x4 + 1) σ
set_option maxRecDepth 4000 in
theorem w_M_laid_87 {l : Launch} {d : zD} {F : zF} {h : Nat → Nat} {out : Int32 × zS} {k42 : Int32 → Int32 → Int32 → zS → Option (Int32 × zS)} (C : zOk d F RX11 cX11_laid 5 4 90) (T : zRt d F (some .int) (some (.int out.1)) (MW d h out.2)) (H42 : ∀ (x2 : Int32) (x3 : Int32) (x4 : Int32) (σ : zS), k42 x2 x3 x4 σ = some out → V l d F 0 0 (MW d h σ) [none, none, some (.int x2), some (.int x3), some (.int x4)] 42 []) (x2 : Int32) (x3 : Int32) (x4 : Int32) (σ : zS) (hf : f_M_laid_87 k42 x2 x3 x4 σ = some out) : V l d F 0 0 (MW d h σ) [none, none, some (.int x2), some (.int x3), some (.int x4)] 87 [] := by
  unfold f_M_laid_87 at hf
  refine zr_iinc (j := 1) 4 [none, none, some (.int x2), some (.int x3), some (.int (x4 + 1))] 90 C (by decide +kernel) rfl rfl rfl (by decide) rfl rfl ?_
  refine zr_goto (off := -48) 42 C (by decide +kernel) (by decide) ?_
  exact H42 _ _ _ _ hf
def f_M_laid_42b (k42 : Int32 → Int32 → Int32 → zS → Option (Int32 × zS)) (x2 : Int32) (x3 : Int32) (x4 : Int32) (σ : zS) : Option (Int32 × zS) :=
  (if 1600 ≤ x4 then
  some (-3, σ)
  else
  zbd (f_M_abs ((zrem x4 40) - (zrem x2 40)) σ) fun r2 σ1 =>
  (if x3 < r2 then
  f_M_laid_87 k42 x2 x3 x4 σ1
  else
  zbd (f_M_abs ((x4 / 40) - (x2 / 40)) σ1) fun r4 σ3 =>
  (if x3 < r4 then
  f_M_laid_87 k42 x2 x3 x4 σ3
  else
  some (x4, σ3))))
set_option maxRecDepth 4000 in
theorem w_M_laid_42b {l : Launch} {d : zD} {F : zF} {h : Nat → Nat} {out : Int32 × zS} {k42 : Int32 → Int32 → Int32 → zS → Option (Int32 × zS)} (C : zOk d F RX11 cX11_laid 5 4 90) (T : zRt d F (some .int) (some (.int out.1)) (MW d h out.2)) (H42 : ∀ (x2 : Int32) (x3 : Int32) (x4 : Int32) (σ : zS), k42 x2 x3 x4 σ = some out → V l d F 0 0 (MW d h σ) [none, none, some (.int x2), some (.int x3), some (.int x4)] 42 []) (x2 : Int32) (x3 : Int32) (x4 : Int32) (σ : zS) (hf : f_M_laid_42b k42 x2 x3 x4 σ = some out) : V l d F 0 0 (MW d h σ) [none, none, some (.int x2), some (.int x3), some (.int x4)] 42 [] := by
  unfold f_M_laid_42b at hf
  refine zr_iload 4 44 C (by decide +kernel) rfl rfl ?_
  refine zr_sipush (v := 1600) 1600 47 C (by decide +kernel) rfl rfl ?_
  refine zr_icmp_ge (off := 46) 93 50 C (by decide +kernel) (by decide) rfl hf (fun hf => ?_) (fun hf => ?_)
  · refine zr_bipush (v := (-3)) (-3) 95 C (by decide +kernel) rfl rfl ?_
    obtain rfl := Option.some.inj hf
    exact zr_iret C (by decide +kernel) T
  · refine zr_iload 4 52 C (by decide +kernel) rfl rfl ?_
    refine zr_bipush (v := 40) 40 54 C (by decide +kernel) rfl rfl ?_
    refine zr_irem 55 C (by decide +kernel) rfl (by decide) ?_
    refine zr_iload_n 2 56 C (by decide +kernel) rfl rfl ?_
    refine zr_bipush (v := 40) 40 58 C (by decide +kernel) rfl rfl ?_
    refine zr_irem 59 C (by decide +kernel) rfl (by decide) ?_
    refine zr_isub 60 C (by decide +kernel) rfl ?_
    refine k_M_abs (idx := 146) 63 C (by decide +kernel) rfl q_1260 (zb2 rfl rfl) (Nat.le_of_ble_eq_true rfl) hf (fun r2 σ1 hf => ?_)
    refine zr_iload_n 3 64 C (by decide +kernel) rfl rfl ?_
    refine zr_icmp_gt (off := 23) 87 67 C (by decide +kernel) (by decide) rfl hf (fun hf => ?_) (fun hf => ?_)
    · exact w_M_laid_87 C T H42 _ _ _ _ hf
    · refine zr_iload 4 69 C (by decide +kernel) rfl rfl ?_
      refine zr_bipush (v := 40) 40 71 C (by decide +kernel) rfl rfl ?_
      refine zr_idiv 72 C (by decide +kernel) rfl (by decide) ?_
      refine zr_iload_n 2 73 C (by decide +kernel) rfl rfl ?_
      refine zr_bipush (v := 40) 40 75 C (by decide +kernel) rfl rfl ?_
      refine zr_idiv 76 C (by decide +kernel) rfl (by decide) ?_
      refine zr_isub 77 C (by decide +kernel) rfl ?_
      refine k_M_abs (idx := 146) 80 C (by decide +kernel) rfl q_1260 (zb2 rfl rfl) (Nat.le_of_ble_eq_true rfl) hf (fun r4 σ3 hf => ?_)
      refine zr_iload_n 3 81 C (by decide +kernel) rfl rfl ?_
      refine zr_icmp_gt (off := 6) 87 84 C (by decide +kernel) (by decide) rfl hf (fun hf => ?_) (fun hf => ?_)
      · exact w_M_laid_87 C T H42 _ _ _ _ hf
      · refine zr_iload 4 86 C (by decide +kernel) rfl rfl ?_
        obtain rfl := Option.some.inj hf
        exact zr_iret C (by decide +kernel) T
def f_M_laid_42  : Nat → Int32 → Int32 → Int32 → zS → Option (Int32 × zS)
  | 0, _, _, _, _ => none
  | n + 1, x2, x3, x4,  σ => f_M_laid_42b (fun x2 x3 x4 σ => f_M_laid_42  n x2 x3 x4 σ) x2 x3 x4 σ
theorem w_M_laid_42 {l : Launch} {d : zD} {F : zF} {h : Nat → Nat} {out : Int32 × zS}  (C : zOk d F RX11 cX11_laid 5 4 90) (T : zRt d F (some .int) (some (.int out.1)) (MW d h out.2))  : ∀ (n : Nat) (x2 : Int32) (x3 : Int32) (x4 : Int32) (σ : zS), f_M_laid_42  n x2 x3 x4 σ = some out → V l d F 0 0 (MW d h σ) [none, none, some (.int x2), some (.int x3), some (.int x4)] 42 [] := by
  intro n
  induction n with
  | zero =>
    intro x2 x3 x4 σ hf
    cases hf
  | succ n ih =>
    intro x2 x3 x4 σ hf
    exact w_M_laid_42b C T ih x2 x3 x4 σ hf
def f_M_laid (p1 : Int32) (p2 : Int32) (σ : zS) : Option (Int32 × zS) :=
  zbd (f_M_isShape p1 σ) fun r2 σ1 =>
  (if r2 = 0 then
  some (-1, σ1)
  else
  zbd (f_M_isPlace p2 σ1) fun r4 σ3 =>
  (if r4 = 0 then
  some (-2, σ3)
  else
  zin p1 12 ((if (σ3.2 3 p1.toNatClampNeg) = 5 then
  zbd (f_M_reach p1 σ3) fun r6 σ5 =>
  f_M_laid_42 zfu p2 r6 0 σ5
  else
  some (-13, σ3)))))
set_option maxRecDepth 4000 in
theorem m_M_laid {l : Launch} {d : zD} {h : Nat → Nat} {out : Int32 × zS} {σ : zS} {p1 : Int32} {p2 : Int32} (hf : f_M_laid p1 p2 σ = some out) : zM l yX11_laid cX11_laid 5 (some .int) 4 90 d [.ref (h 0), .int p1, .int p2] (MW d h σ) (MW d h out.2) (some (.int out.1)) := by
  refine zM_of [some (.ref (h 0)), some (.int p1), some (.int p2), none, none] (by decide +kernel) rfl (Nat.le_of_ble_eq_true rfl) (fun F C T => ?_)
  unfold f_M_laid at hf
  refine zr_aload_n 0 1 C (by decide +kernel) rfl rfl ?_
  refine zr_iload_n 1 2 C (by decide +kernel) rfl rfl ?_
  refine k_M_isShape (idx := 263) 5 C (by decide +kernel) rfl q_1313 (zb2 rfl rfl) (Nat.le_of_ble_eq_true rfl) hf (fun r2 σ1 hf => ?_)
  refine zr_if_ne (off := 5) 10 8 C (by decide +kernel) (by decide) rfl hf (fun hf => ?_) (fun hf => ?_)
  · refine zr_iload_n 2 11 C (by decide +kernel) rfl rfl ?_
    refine k_M_isPlace (idx := 150) 14 C (by decide +kernel) rfl q_1178 (zb2 rfl rfl) (Nat.le_of_ble_eq_true rfl) hf (fun r4 σ3 hf => ?_)
    refine zr_if_ne (off := 6) 20 17 C (by decide +kernel) (by decide) rfl hf (fun hf => ?_) (fun hf => ?_)
    · refine zr_aload_n 0 21 C (by decide +kernel) rfl rfl ?_
      refine mg_0_4 (idx := 16) 24 C (by decide +kernel) rfl q_995 ?_
      refine zr_iload_n 1 25 C (by decide +kernel) rfl rfl ?_
      refine ml_3 26 C (by decide +kernel) rfl hf (fun hf => ?_)
      refine zr_iconst (v := 5) 5 27 C (by decide +kernel) rfl rfl ?_
      refine zr_icmp_eq (off := 6) 33 30 C (by decide +kernel) (by decide) rfl hf (fun hf => ?_) (fun hf => ?_)
      · refine zr_aload_n 0 34 C (by decide +kernel) rfl rfl ?_
        refine zr_iload_n 1 35 C (by decide +kernel) rfl rfl ?_
        refine k_M_reach (idx := 266) 38 C (by decide +kernel) rfl q_1317 (zb2 rfl rfl) (Nat.le_of_ble_eq_true rfl) hf (fun r6 σ5 hf => ?_)
        refine zr_istore_n 3 [some (.ref (h 0)), some (.int p1), some (.int p2), some (.int r6), none] 39 C (by decide +kernel) rfl (by decide) rfl rfl ?_
        refine zr_iconst (v := 0) 0 40 C (by decide +kernel) rfl rfl ?_
        refine zr_istore 4 [some (.ref (h 0)), some (.int p1), some (.int p2), some (.int r6), some (.int 0)] 42 C (by decide +kernel) rfl (by decide) rfl rfl ?_
        refine zr_less (zN (zN (zA (zA (zA zE))))) ?_
        exact w_M_laid_42 C T zfu _ _ _ _ hf
      · refine zr_bipush (v := (-13)) (-13) 32 C (by decide +kernel) rfl rfl ?_
        obtain rfl := Option.some.inj hf
        exact zr_iret C (by decide +kernel) T
    · refine zr_bipush (v := (-2)) (-2) 19 C (by decide +kernel) rfl rfl ?_
      obtain rfl := Option.some.inj hf
      exact zr_iret C (by decide +kernel) T
  · refine zr_iconst (v := (-1)) (-1) 9 C (by decide +kernel) rfl rfl ?_
    obtain rfl := Option.some.inj hf
    exact zr_iret C (by decide +kernel) T
theorem y_M_laid : zY yX11_laid cX11_laid 5 (some .int) 2 := ⟨q_1368, q_90, by decide +kernel, by decide +kernel, by decide +kernel⟩
theorem k_M_laid {l : Launch} {d : zD} {F : zF} {h : Nat → Nat} {σ : zS} {lv : List (Option Value)} {pc : Nat} {own : String} {cc : ByteArray} {nL fr lo idx : Nat} {rest : List Value} {β : Type} {kf : Int32 → zS → Option β} {o2 : β} {p1 : Int32} {p2 : Int32} (pc' : Nat) (C : zOk d F own cc nL fr lo) (hd : decode cc pc = .ok (.invokevirtual idx, 3)) (hp : pc + 3 = pc') (hq : Cond.methodLink own idx yX11_laid ∈ zW) (hm : 4 + 1 ≤ fr ∧ 8 + (5 + 11) + 90 ≤ lo) (hr : (rest.map fun v => v.category).sum ≤ 8) (hf : zbd (f_M_laid p1 p2 σ) kf = some o2) (K : ∀ (r : Int32) (σ' : zS), kf r σ' = some o2 → V l d F 0 0 (MW d h σ') lv pc' (.int r :: rest)) : V l d F 0 0 (MW d h σ) lv pc (.int p2 :: .int p1 :: .ref (h 0) :: rest) := by
  obtain ⟨q, h1, h2⟩ := zbd_some hf
  exact zr_callV y_M_laid ⟨q_1366, q_1367⟩ 0 rfl rfl (As := [.int p1, .int p2]) (m_M_laid h1) rfl rfl pc' C hd hp hq hm hr (K _ _ h2)
/-! StepsBeyondModel.ravine(IIIII)I -/
def f_M_ravine (p1 : Int32) (p2 : Int32) (p3 : Int32) (p4 : Int32) (p5 : Int32) (σ : zS) : Option (Int32 × zS) :=
  zbd (f_M_in p1 0 1 σ) fun r2 σ1 =>
  (if r2 = 0 then
  some (-2, σ1)
  else
  zbd (f_M_in p2 1 39 σ1) fun r4 σ3 =>
  (if r4 = 0 then
  some (-2, σ3)
  else
  zbd (f_M_in p3 0 39 σ3) fun r6 σ5 =>
  (if r6 = 0 then
  some (-2, σ5)
  else
  zbd (f_M_in p4 p3 39 σ5) fun r8 σ7 =>
  (if r8 = 0 then
  some (-2, σ7)
  else
  zbd (f_M_in p5 1 99 σ7) fun r10 σ9 =>
  (if r10 = 0 then
  some (-2, σ9)
  else
  (if (σ9.1 8) = 6 then
  some (-4, σ9)
  else
  zin (σ9.1 8) 6 (zlt (zsa σ9 6 (σ9.1 8) p1) fun σ11 =>
  zin (σ11.1 8) 6 (zlt (zsa σ11 7 (σ11.1 8) p2) fun σ12 =>
  zin (σ12.1 8) 6 (zlt (zsa σ12 8 (σ12.1 8) p3) fun σ13 =>
  zin (σ13.1 8) 6 (zlt (zsa σ13 9 (σ13.1 8) p4) fun σ14 =>
  zin (σ14.1 8) 6 (zlt (zsa σ14 10 (σ14.1 8) p5) fun σ15 =>
  zlt (zsg σ15 8 ((σ15.1 8) + 1)) fun σ16 =>
  some (σ16.1 8, σ16))))))))))))
set_option maxRecDepth 4000 in
theorem m_M_ravine {l : Launch} {d : zD} {h : Nat → Nat} {out : Int32 × zS} {σ : zS} {p1 : Int32} {p2 : Int32} {p3 : Int32} {p4 : Int32} {p5 : Int32} (hf : f_M_ravine p1 p2 p3 p4 p5 σ = some out) : zM l yX11_ravine cX11_ravine 6 (some .int) 1 22 d [.ref (h 0), .int p1, .int p2, .int p3, .int p4, .int p5] (MW d h σ) (MW d h out.2) (some (.int out.1)) := by
  refine zM_of [some (.ref (h 0)), some (.int p1), some (.int p2), some (.int p3), some (.int p4), some (.int p5)] (by decide +kernel) rfl (Nat.le_of_ble_eq_true rfl) (fun F C T => ?_)
  unfold f_M_ravine at hf
  refine zr_iload_n 1 1 C (by decide +kernel) rfl rfl ?_
  refine zr_iconst (v := 0) 0 2 C (by decide +kernel) rfl rfl ?_
  refine zr_iconst (v := 1) 1 3 C (by decide +kernel) rfl rfl ?_
  refine k_M_in (idx := 139) 6 C (by decide +kernel) rfl q_1181 (zb2 rfl rfl) (Nat.le_of_ble_eq_true rfl) hf (fun r2 σ1 hf => ?_)
  refine zr_if_eq (off := 45) 51 9 C (by decide +kernel) (by decide) rfl hf (fun hf => ?_) (fun hf => ?_)
  · refine zr_bipush (v := (-2)) (-2) 53 C (by decide +kernel) rfl rfl ?_
    obtain rfl := Option.some.inj hf
    exact zr_iret C (by decide +kernel) T
  · refine zr_iload_n 2 10 C (by decide +kernel) rfl rfl ?_
    refine zr_iconst (v := 1) 1 11 C (by decide +kernel) rfl rfl ?_
    refine zr_bipush (v := 39) 39 13 C (by decide +kernel) rfl rfl ?_
    refine k_M_in (idx := 139) 16 C (by decide +kernel) rfl q_1181 (zb2 rfl rfl) (Nat.le_of_ble_eq_true rfl) hf (fun r4 σ3 hf => ?_)
    refine zr_if_eq (off := 35) 51 19 C (by decide +kernel) (by decide) rfl hf (fun hf => ?_) (fun hf => ?_)
    · refine zr_bipush (v := (-2)) (-2) 53 C (by decide +kernel) rfl rfl ?_
      obtain rfl := Option.some.inj hf
      exact zr_iret C (by decide +kernel) T
    · refine zr_iload_n 3 20 C (by decide +kernel) rfl rfl ?_
      refine zr_iconst (v := 0) 0 21 C (by decide +kernel) rfl rfl ?_
      refine zr_bipush (v := 39) 39 23 C (by decide +kernel) rfl rfl ?_
      refine k_M_in (idx := 139) 26 C (by decide +kernel) rfl q_1181 (zb2 rfl rfl) (Nat.le_of_ble_eq_true rfl) hf (fun r6 σ5 hf => ?_)
      refine zr_if_eq (off := 25) 51 29 C (by decide +kernel) (by decide) rfl hf (fun hf => ?_) (fun hf => ?_)
      · refine zr_bipush (v := (-2)) (-2) 53 C (by decide +kernel) rfl rfl ?_
        obtain rfl := Option.some.inj hf
        exact zr_iret C (by decide +kernel) T
      · refine zr_iload 4 31 C (by decide +kernel) rfl rfl ?_
        refine zr_iload_n 3 32 C (by decide +kernel) rfl rfl ?_
        refine zr_bipush (v := 39) 39 34 C (by decide +kernel) rfl rfl ?_
        refine k_M_in (idx := 139) 37 C (by decide +kernel) rfl q_1181 (zb2 rfl rfl) (Nat.le_of_ble_eq_true rfl) hf (fun r8 σ7 hf => ?_)
        refine zr_if_eq (off := 14) 51 40 C (by decide +kernel) (by decide) rfl hf (fun hf => ?_) (fun hf => ?_)
        · refine zr_bipush (v := (-2)) (-2) 53 C (by decide +kernel) rfl rfl ?_
          obtain rfl := Option.some.inj hf
          exact zr_iret C (by decide +kernel) T
        · refine zr_iload 5 42 C (by decide +kernel) rfl rfl ?_
          refine zr_iconst (v := 1) 1 43 C (by decide +kernel) rfl rfl ?_
          refine zr_bipush (v := 99) 99 45 C (by decide +kernel) rfl rfl ?_
          refine k_M_in (idx := 139) 48 C (by decide +kernel) rfl q_1181 (zb2 rfl rfl) (Nat.le_of_ble_eq_true rfl) hf (fun r10 σ9 hf => ?_)
          refine zr_if_ne (off := 6) 54 51 C (by decide +kernel) (by decide) rfl hf (fun hf => ?_) (fun hf => ?_)
          · refine zr_aload_n 0 55 C (by decide +kernel) rfl rfl ?_
            refine mg_0_8 (idx := 229) 58 C (by decide +kernel) rfl q_999 ?_
            refine zr_bipush (v := 6) 6 60 C (by decide +kernel) rfl rfl ?_
            refine zr_icmp_ne (off := 6) 66 63 C (by decide +kernel) (by decide) rfl hf (fun hf => ?_) (fun hf => ?_)
            · refine zr_aload_n 0 67 C (by decide +kernel) rfl rfl ?_
              refine mg_0_9 (idx := 25) 70 C (by decide +kernel) rfl q_1000 ?_
              refine zr_aload_n 0 71 C (by decide +kernel) rfl rfl ?_
              refine mg_0_8 (idx := 229) 74 C (by decide +kernel) rfl q_999 ?_
              refine zr_iload_n 1 75 C (by decide +kernel) rfl rfl ?_
              refine ms_6 76 C (by decide +kernel) rfl hf (fun σ11 hf => ?_)
              refine zr_aload_n 0 77 C (by decide +kernel) rfl rfl ?_
              refine mg_0_10 (idx := 28) 80 C (by decide +kernel) rfl q_1001 ?_
              refine zr_aload_n 0 81 C (by decide +kernel) rfl rfl ?_
              refine mg_0_8 (idx := 229) 84 C (by decide +kernel) rfl q_999 ?_
              refine zr_iload_n 2 85 C (by decide +kernel) rfl rfl ?_
              refine ms_7 86 C (by decide +kernel) rfl hf (fun σ12 hf => ?_)
              refine zr_aload_n 0 87 C (by decide +kernel) rfl rfl ?_
              refine mg_0_11 (idx := 31) 90 C (by decide +kernel) rfl q_1002 ?_
              refine zr_aload_n 0 91 C (by decide +kernel) rfl rfl ?_
              refine mg_0_8 (idx := 229) 94 C (by decide +kernel) rfl q_999 ?_
              refine zr_iload_n 3 95 C (by decide +kernel) rfl rfl ?_
              refine ms_8 96 C (by decide +kernel) rfl hf (fun σ13 hf => ?_)
              refine zr_aload_n 0 97 C (by decide +kernel) rfl rfl ?_
              refine mg_0_12 (idx := 34) 100 C (by decide +kernel) rfl q_1003 ?_
              refine zr_aload_n 0 101 C (by decide +kernel) rfl rfl ?_
              refine mg_0_8 (idx := 229) 104 C (by decide +kernel) rfl q_999 ?_
              refine zr_iload 4 106 C (by decide +kernel) rfl rfl ?_
              refine ms_9 107 C (by decide +kernel) rfl hf (fun σ14 hf => ?_)
              refine zr_aload_n 0 108 C (by decide +kernel) rfl rfl ?_
              refine mg_0_13 (idx := 37) 111 C (by decide +kernel) rfl q_1004 ?_
              refine zr_aload_n 0 112 C (by decide +kernel) rfl rfl ?_
              refine mg_0_8 (idx := 229) 115 C (by decide +kernel) rfl q_999 ?_
              refine zr_iload 5 117 C (by decide +kernel) rfl rfl ?_
              refine ms_10 118 C (by decide +kernel) rfl hf (fun σ15 hf => ?_)
              refine zr_aload_n 0 119 C (by decide +kernel) rfl rfl ?_
              refine zr_dup 120 C (by decide +kernel) rfl rfl ?_
              refine mg_0_8 (idx := 229) 123 C (by decide +kernel) rfl q_999 ?_
              refine zr_iconst (v := 1) 1 124 C (by decide +kernel) rfl rfl ?_
              refine zr_iadd 125 C (by decide +kernel) rfl ?_
              refine mp_0_8 (idx := 229) 128 C (by decide +kernel) rfl q_999 hf (fun σ16 hf => ?_)
              refine zr_aload_n 0 129 C (by decide +kernel) rfl rfl ?_
              refine mg_0_8 (idx := 229) 132 C (by decide +kernel) rfl q_999 ?_
              obtain rfl := Option.some.inj hf
              exact zr_iret C (by decide +kernel) T
            · refine zr_bipush (v := (-4)) (-4) 65 C (by decide +kernel) rfl rfl ?_
              obtain rfl := Option.some.inj hf
              exact zr_iret C (by decide +kernel) T
          · refine zr_bipush (v := (-2)) (-2) 53 C (by decide +kernel) rfl rfl ?_
            obtain rfl := Option.some.inj hf
            exact zr_iret C (by decide +kernel) T
theorem y_M_ravine : zY yX11_ravine cX11_ravine 6 (some .int) 5 := ⟨q_1372, q_90, by decide +kernel, by decide +kernel, by decide +kernel⟩
theorem k_M_ravine {l : Launch} {d : zD} {F : zF} {h : Nat → Nat} {σ : zS} {lv : List (Option Value)} {pc : Nat} {own : String} {cc : ByteArray} {nL fr lo idx : Nat} {rest : List Value} {β : Type} {kf : Int32 → zS → Option β} {o2 : β} {p1 : Int32} {p2 : Int32} {p3 : Int32} {p4 : Int32} {p5 : Int32} (pc' : Nat) (C : zOk d F own cc nL fr lo) (hd : decode cc pc = .ok (.invokevirtual idx, 3)) (hp : pc + 3 = pc') (hq : Cond.methodLink own idx yX11_ravine ∈ zW) (hm : 1 + 1 ≤ fr ∧ 8 + (6 + 11) + 22 ≤ lo) (hr : (rest.map fun v => v.category).sum ≤ 8) (hf : zbd (f_M_ravine p1 p2 p3 p4 p5 σ) kf = some o2) (K : ∀ (r : Int32) (σ' : zS), kf r σ' = some o2 → V l d F 0 0 (MW d h σ') lv pc' (.int r :: rest)) : V l d F 0 0 (MW d h σ) lv pc (.int p5 :: .int p4 :: .int p3 :: .int p2 :: .int p1 :: .ref (h 0) :: rest) := by
  obtain ⟨q, h1, h2⟩ := zbd_some hf
  exact zr_callV y_M_ravine ⟨q_1370, q_1371⟩ 0 rfl rfl (As := [.int p1, .int p2, .int p3, .int p4, .int p5]) (m_M_ravine h1) rfl rfl pc' C hd hp hq hm hr (K _ _ h2)
/-! StepsBeyondModel.cost(III)I -/
def f_M_cost_71 (k6 : Int32 → Int32 → Int32 → Int32 → Int32 → zS → Option (Int32 × zS)) (x1 : Int32) (x2 : Int32) (x3 : Int32) (x5 : Int32) (y0 : Int32) (y1 : Int32) (σ : zS) : Option (Int32 × zS) :=
  zlt (y0 + y1) fun v1 => 
  k6 x1 x2 x3 v1 (x5 + 1) σ
set_option maxRecDepth 4000 in
theorem w_M_cost_71 {l : Launch} {d : zD} {F : zF} {h : Nat → Nat} {out : Int32 × zS} {k6 : Int32 → Int32 → Int32 → Int32 → Int32 → zS → Option (Int32 × zS)} (C : zOk d F RX11 cX11_cost 6 1 22) (T : zRt d F (some .int) (some (.int out.1)) (MW d h out.2)) (H6 : ∀ (x1 : Int32) (x2 : Int32) (x3 : Int32) (x4 : Int32) (x5 : Int32) (σ : zS), k6 x1 x2 x3 x4 x5 σ = some out → V l d F 0 0 (MW d h σ) [some (.ref (h 0)), some (.int x1), some (.int x2), some (.int x3), some (.int x4), some (.int x5)] 6 []) (x1 : Int32) (x2 : Int32) (x3 : Int32) (x5 : Int32) (y0 : Int32) (y1 : Int32) (σ : zS) (hf : f_M_cost_71 k6 x1 x2 x3 x5 y0 y1 σ = some out) : V l d F 0 0 (MW d h σ) [some (.ref (h 0)), some (.int x1), some (.int x2), some (.int x3), none, some (.int x5)] 71 [.int y1, .int y0] := by
  unfold f_M_cost_71 at hf
  refine zr_iadd 72 C (by decide +kernel) rfl ?_
  refine zr_name hf (fun v1 hf => ?_)
  refine zr_istore 4 [some (.ref (h 0)), some (.int x1), some (.int x2), some (.int x3), some (.int v1), some (.int x5)] 74 C (by decide +kernel) rfl (by decide) rfl rfl ?_
  refine zr_iinc (j := 1) 5 [some (.ref (h 0)), some (.int x1), some (.int x2), some (.int x3), some (.int v1), some (.int (x5 + 1))] 77 C (by decide +kernel) rfl rfl rfl (by decide) rfl rfl ?_
  refine zr_goto (off := -71) 6 C (by decide +kernel) (by decide) ?_
  exact H6 _ _ _ _ _ _ hf
def f_M_cost_70 (k6 : Int32 → Int32 → Int32 → Int32 → Int32 → zS → Option (Int32 × zS)) (x1 : Int32) (x2 : Int32) (x3 : Int32) (x5 : Int32) (y0 : Int32) (σ : zS) : Option (Int32 × zS) :=
  f_M_cost_71 k6 x1 x2 x3 x5 y0 0 σ
set_option maxRecDepth 4000 in
theorem w_M_cost_70 {l : Launch} {d : zD} {F : zF} {h : Nat → Nat} {out : Int32 × zS} {k6 : Int32 → Int32 → Int32 → Int32 → Int32 → zS → Option (Int32 × zS)} (C : zOk d F RX11 cX11_cost 6 1 22) (T : zRt d F (some .int) (some (.int out.1)) (MW d h out.2)) (H6 : ∀ (x1 : Int32) (x2 : Int32) (x3 : Int32) (x4 : Int32) (x5 : Int32) (σ : zS), k6 x1 x2 x3 x4 x5 σ = some out → V l d F 0 0 (MW d h σ) [some (.ref (h 0)), some (.int x1), some (.int x2), some (.int x3), some (.int x4), some (.int x5)] 6 []) (x1 : Int32) (x2 : Int32) (x3 : Int32) (x5 : Int32) (y0 : Int32) (σ : zS) (hf : f_M_cost_70 k6 x1 x2 x3 x5 y0 σ = some out) : V l d F 0 0 (MW d h σ) [some (.ref (h 0)), some (.int x1), some (.int x2), some (.int x3), none, some (.int x5)] 70 [.int y0] := by
  unfold f_M_cost_70 at hf
  refine zr_iconst (v := 0) 0 71 C (by decide +kernel) rfl rfl ?_
  exact w_M_cost_71 C T H6 _ _ _ _ _ _ _ hf
def f_M_cost_6b (k6 : Int32 → Int32 → Int32 → Int32 → Int32 → zS → Option (Int32 × zS)) (x1 : Int32) (x2 : Int32) (x3 : Int32) (x4 : Int32) (x5 : Int32) (σ : zS) : Option (Int32 × zS) :=
  (if (σ.1 8) ≤ x5 then
  some (x4, σ)
  else
  zin x5 6 ((if (σ.2 6 x5.toNatClampNeg) = x1 then
  zin x5 6 ((if (σ.2 7 x5.toNatClampNeg) = x2 then
  zin x5 6 (zin x5 6 (zbd (f_M_in x3 (σ.2 8 x5.toNatClampNeg) (σ.2 9 x5.toNatClampNeg) σ) fun r2 σ1 =>
  (if r2 = 0 then
  f_M_cost_70 k6 x1 x2 x3 x5 x4 σ1
  else
  zin x5 6 (f_M_cost_71 k6 x1 x2 x3 x5 x4 (σ1.2 10 x5.toNatClampNeg) σ1))))
  else
  f_M_cost_70 k6 x1 x2 x3 x5 x4 σ))
  else
  f_M_cost_70 k6 x1 x2 x3 x5 x4 σ)))
set_option maxRecDepth 4000 in
theorem w_M_cost_6b {l : Launch} {d : zD} {F : zF} {h : Nat → Nat} {out : Int32 × zS} {k6 : Int32 → Int32 → Int32 → Int32 → Int32 → zS → Option (Int32 × zS)} (C : zOk d F RX11 cX11_cost 6 1 22) (T : zRt d F (some .int) (some (.int out.1)) (MW d h out.2)) (H6 : ∀ (x1 : Int32) (x2 : Int32) (x3 : Int32) (x4 : Int32) (x5 : Int32) (σ : zS), k6 x1 x2 x3 x4 x5 σ = some out → V l d F 0 0 (MW d h σ) [some (.ref (h 0)), some (.int x1), some (.int x2), some (.int x3), some (.int x4), some (.int x5)] 6 []) (x1 : Int32) (x2 : Int32) (x3 : Int32) (x4 : Int32) (x5 : Int32) (σ : zS) (hf : f_M_cost_6b k6 x1 x2 x3 x4 x5 σ = some out) : V l d F 0 0 (MW d h σ) [some (.ref (h 0)), some (.int x1), some (.int x2), some (.int x3), some (.int x4), some (.int x5)] 6 [] := by
  unfold f_M_cost_6b at hf
  refine zr_iload 5 8 C (by decide +kernel) rfl rfl ?_
  refine zr_aload_n 0 9 C (by decide +kernel) rfl rfl ?_
  refine mg_0_8 (idx := 229) 12 C (by decide +kernel) rfl q_999 ?_
  refine zr_icmp_ge (off := 68) 80 15 C (by decide +kernel) (by decide) rfl hf (fun hf => ?_) (fun hf => ?_)
  · refine zr_iload 4 82 C (by decide +kernel) rfl rfl ?_
    obtain rfl := Option.some.inj hf
    exact zr_iret C (by decide +kernel) T
  · refine zr_iload 4 17 C (by decide +kernel) rfl rfl ?_
    refine zr_aload_n 0 18 C (by decide +kernel) rfl rfl ?_
    refine mg_0_9 (idx := 25) 21 C (by decide +kernel) rfl q_1000 ?_
    refine zr_iload 5 23 C (by decide +kernel) rfl rfl ?_
    refine ml_6 24 C (by decide +kernel) rfl hf (fun hf => ?_)
    refine zr_iload_n 1 25 C (by decide +kernel) rfl rfl ?_
    refine zr_icmp_ne (off := 45) 70 28 C (by decide +kernel) (by decide) rfl hf (fun hf => ?_) (fun hf => ?_)
    · refine zr_less (zA (zA (zA (zA (zN (zA zE)))))) ?_
      exact w_M_cost_70 C T H6 _ _ _ _ _ _ hf
    · refine zr_aload_n 0 29 C (by decide +kernel) rfl rfl ?_
      refine mg_0_10 (idx := 28) 32 C (by decide +kernel) rfl q_1001 ?_
      refine zr_iload 5 34 C (by decide +kernel) rfl rfl ?_
      refine ml_7 35 C (by decide +kernel) rfl hf (fun hf => ?_)
      refine zr_iload_n 2 36 C (by decide +kernel) rfl rfl ?_
      refine zr_icmp_ne (off := 34) 70 39 C (by decide +kernel) (by decide) rfl hf (fun hf => ?_) (fun hf => ?_)
      · refine zr_less (zA (zA (zA (zA (zN (zA zE)))))) ?_
        exact w_M_cost_70 C T H6 _ _ _ _ _ _ hf
      · refine zr_iload_n 3 40 C (by decide +kernel) rfl rfl ?_
        refine zr_aload_n 0 41 C (by decide +kernel) rfl rfl ?_
        refine mg_0_11 (idx := 31) 44 C (by decide +kernel) rfl q_1002 ?_
        refine zr_iload 5 46 C (by decide +kernel) rfl rfl ?_
        refine ml_8 47 C (by decide +kernel) rfl hf (fun hf => ?_)
        refine zr_aload_n 0 48 C (by decide +kernel) rfl rfl ?_
        refine mg_0_12 (idx := 34) 51 C (by decide +kernel) rfl q_1003 ?_
        refine zr_iload 5 53 C (by decide +kernel) rfl rfl ?_
        refine ml_9 54 C (by decide +kernel) rfl hf (fun hf => ?_)
        refine k_M_in (idx := 139) 57 C (by decide +kernel) rfl q_1181 (zb2 rfl rfl) (Nat.le_of_ble_eq_true rfl) hf (fun r2 σ1 hf => ?_)
        refine zr_if_eq (off := 13) 70 60 C (by decide +kernel) (by decide) rfl hf (fun hf => ?_) (fun hf => ?_)
        · refine zr_less (zA (zA (zA (zA (zN (zA zE)))))) ?_
          exact w_M_cost_70 C T H6 _ _ _ _ _ _ hf
        · refine zr_aload_n 0 61 C (by decide +kernel) rfl rfl ?_
          refine mg_0_13 (idx := 37) 64 C (by decide +kernel) rfl q_1004 ?_
          refine zr_iload 5 66 C (by decide +kernel) rfl rfl ?_
          refine ml_10 67 C (by decide +kernel) rfl hf (fun hf => ?_)
          refine zr_goto (off := 4) 71 C (by decide +kernel) (by decide) ?_
          refine zr_less (zA (zA (zA (zA (zN (zA zE)))))) ?_
          exact w_M_cost_71 C T H6 _ _ _ _ _ _ _ hf
def f_M_cost_6  : Nat → Int32 → Int32 → Int32 → Int32 → Int32 → zS → Option (Int32 × zS)
  | 0, _, _, _, _, _, _ => none
  | n + 1, x1, x2, x3, x4, x5,  σ => f_M_cost_6b (fun x1 x2 x3 x4 x5 σ => f_M_cost_6  n x1 x2 x3 x4 x5 σ) x1 x2 x3 x4 x5 σ
theorem w_M_cost_6 {l : Launch} {d : zD} {F : zF} {h : Nat → Nat} {out : Int32 × zS}  (C : zOk d F RX11 cX11_cost 6 1 22) (T : zRt d F (some .int) (some (.int out.1)) (MW d h out.2))  : ∀ (n : Nat) (x1 : Int32) (x2 : Int32) (x3 : Int32) (x4 : Int32) (x5 : Int32) (σ : zS), f_M_cost_6  n x1 x2 x3 x4 x5 σ = some out → V l d F 0 0 (MW d h σ) [some (.ref (h 0)), some (.int x1), some (.int x2), some (.int x3), some (.int x4), some (.int x5)] 6 [] := by
  intro n
  induction n with
  | zero =>
    intro x1 x2 x3 x4 x5 σ hf
    cases hf
  | succ n ih =>
    intro x1 x2 x3 x4 x5 σ hf
    exact w_M_cost_6b C T ih x1 x2 x3 x4 x5 σ hf
def f_M_cost (p1 : Int32) (p2 : Int32) (p3 : Int32) (σ : zS) : Option (Int32 × zS) :=
  f_M_cost_6 zfu p1 p2 p3 1 0 σ
set_option maxRecDepth 4000 in
theorem m_M_cost {l : Launch} {d : zD} {h : Nat → Nat} {out : Int32 × zS} {σ : zS} {p1 : Int32} {p2 : Int32} {p3 : Int32} (hf : f_M_cost p1 p2 p3 σ = some out) : zM l yX11_cost cX11_cost 6 (some .int) 1 22 d [.ref (h 0), .int p1, .int p2, .int p3] (MW d h σ) (MW d h out.2) (some (.int out.1)) := by
  refine zM_of [some (.ref (h 0)), some (.int p1), some (.int p2), some (.int p3), none, none] (by decide +kernel) rfl (Nat.le_of_ble_eq_true rfl) (fun F C T => ?_)
  unfold f_M_cost at hf
  refine zr_iconst (v := 1) 1 1 C (by decide +kernel) rfl rfl ?_
  refine zr_istore 4 [some (.ref (h 0)), some (.int p1), some (.int p2), some (.int p3), some (.int 1), none] 3 C (by decide +kernel) rfl (by decide) rfl rfl ?_
  refine zr_iconst (v := 0) 0 4 C (by decide +kernel) rfl rfl ?_
  refine zr_istore 5 [some (.ref (h 0)), some (.int p1), some (.int p2), some (.int p3), some (.int 1), some (.int 0)] 6 C (by decide +kernel) rfl (by decide) rfl rfl ?_
  exact w_M_cost_6 C T zfu _ _ _ _ _ _ hf
theorem y_M_cost : zY yX11_cost cX11_cost 6 (some .int) 3 := ⟨q_1385, q_90, by decide +kernel, by decide +kernel, by decide +kernel⟩
theorem k_M_cost {l : Launch} {d : zD} {F : zF} {h : Nat → Nat} {σ : zS} {lv : List (Option Value)} {pc : Nat} {own : String} {cc : ByteArray} {nL fr lo idx : Nat} {rest : List Value} {β : Type} {kf : Int32 → zS → Option β} {o2 : β} {p1 : Int32} {p2 : Int32} {p3 : Int32} (pc' : Nat) (C : zOk d F own cc nL fr lo) (hd : decode cc pc = .ok (.invokevirtual idx, 3)) (hp : pc + 3 = pc') (hq : Cond.methodLink own idx yX11_cost ∈ zW) (hm : 1 + 1 ≤ fr ∧ 8 + (6 + 11) + 22 ≤ lo) (hr : (rest.map fun v => v.category).sum ≤ 8) (hf : zbd (f_M_cost p1 p2 p3 σ) kf = some o2) (K : ∀ (r : Int32) (σ' : zS), kf r σ' = some o2 → V l d F 0 0 (MW d h σ') lv pc' (.int r :: rest)) : V l d F 0 0 (MW d h σ) lv pc (.int p3 :: .int p2 :: .int p1 :: .ref (h 0) :: rest) := by
  obtain ⟨q, h1, h2⟩ := zbd_some hf
  exact zr_callV y_M_cost ⟨q_1384, q_65⟩ 0 rfl rfl (As := [.int p1, .int p2, .int p3]) (m_M_cost h1) rfl rfl pc' C hd hp hq hm hr (K _ _ h2)
/-! StepsBeyondModel.tries(III)V -/
def f_M_tries (p1 : Int32) (p2 : Int32) (p3 : Int32) (σ : zS) : Option (Int32 × zS) :=
  zin p1 1600 (zin p2 1600 ((if (σ.2 28 p2.toNatClampNeg) ≤ ((σ.2 28 p1.toNatClampNeg) + p3) then
  some (0, σ)
  else
  zin p1 1600 (zin p2 1600 (zlt (zsa σ 28 p2 ((σ.2 28 p1.toNatClampNeg) + p3)) fun σ1 =>
  zin p2 1600 ((if (σ1.2 30 p2.toNatClampNeg) = 0 then
  zin p2 1600 (zlt (zsa σ1 30 p2 (vp_nar .boolean 1)) fun σ2 =>
  zin (zrem ((σ2.1 57) + (σ2.1 58)) 1600) 1600 (zlt (zsa σ2 29 (zrem ((σ2.1 57) + (σ2.1 58)) 1600) p2) fun σ3 =>
  zlt (zsg σ3 58 ((σ3.1 58) + 1)) fun σ4 =>
  some (0, σ4)))
  else
  some (0, σ1))))))))
set_option maxRecDepth 4000 in
theorem m_M_tries {l : Launch} {d : zD} {h : Nat → Nat} {out : Int32 × zS} {σ : zS} {p1 : Int32} {p2 : Int32} {p3 : Int32} (hf : f_M_tries p1 p2 p3 σ = some out) : zM l yX11_tries cX11_tries 4 none 0 0 d [.ref (h 0), .int p1, .int p2, .int p3] (MW d h σ) (MW d h out.2) none := by
  refine zM_of [some (.ref (h 0)), some (.int p1), some (.int p2), some (.int p3)] (by decide +kernel) rfl (Nat.le_of_ble_eq_true rfl) (fun F C T => ?_)
  unfold f_M_tries at hf
  refine zr_aload_n 0 1 C (by decide +kernel) rfl rfl ?_
  refine mg_0_54 (idx := 119) 4 C (by decide +kernel) rfl q_1045 ?_
  refine zr_iload_n 1 5 C (by decide +kernel) rfl rfl ?_
  refine ml_28 6 C (by decide +kernel) rfl hf (fun hf => ?_)
  refine zr_iload_n 3 7 C (by decide +kernel) rfl rfl ?_
  refine zr_iadd 8 C (by decide +kernel) rfl ?_
  refine zr_aload_n 0 9 C (by decide +kernel) rfl rfl ?_
  refine mg_0_54 (idx := 119) 12 C (by decide +kernel) rfl q_1045 ?_
  refine zr_iload_n 2 13 C (by decide +kernel) rfl rfl ?_
  refine ml_28 14 C (by decide +kernel) rfl hf (fun hf => ?_)
  refine zr_icmp_ge (off := 62) 76 17 C (by decide +kernel) (by decide) rfl hf (fun hf => ?_) (fun hf => ?_)
  · obtain rfl := Option.some.inj hf
    exact zr_vret C (by decide +kernel) T
  · refine zr_aload_n 0 18 C (by decide +kernel) rfl rfl ?_
    refine mg_0_54 (idx := 119) 21 C (by decide +kernel) rfl q_1045 ?_
    refine zr_iload_n 2 22 C (by decide +kernel) rfl rfl ?_
    refine zr_aload_n 0 23 C (by decide +kernel) rfl rfl ?_
    refine mg_0_54 (idx := 119) 26 C (by decide +kernel) rfl q_1045 ?_
    refine zr_iload_n 1 27 C (by decide +kernel) rfl rfl ?_
    refine ml_28 28 C (by decide +kernel) rfl hf (fun hf => ?_)
    refine zr_iload_n 3 29 C (by decide +kernel) rfl rfl ?_
    refine zr_iadd 30 C (by decide +kernel) rfl ?_
    refine ms_28 31 C (by decide +kernel) rfl hf (fun σ1 hf => ?_)
    refine zr_aload_n 0 32 C (by decide +kernel) rfl rfl ?_
    refine mg_0_56 (idx := 125) 35 C (by decide +kernel) rfl q_1047 ?_
    refine zr_iload_n 2 36 C (by decide +kernel) rfl rfl ?_
    refine ml_30 37 C (by decide +kernel) rfl hf (fun hf => ?_)
    refine zr_if_ne (off := 39) 76 40 C (by decide +kernel) (by decide) rfl hf (fun hf => ?_) (fun hf => ?_)
    · obtain rfl := Option.some.inj hf
      exact zr_vret C (by decide +kernel) T
    · refine zr_aload_n 0 41 C (by decide +kernel) rfl rfl ?_
      refine mg_0_56 (idx := 125) 44 C (by decide +kernel) rfl q_1047 ?_
      refine zr_iload_n 2 45 C (by decide +kernel) rfl rfl ?_
      refine zr_iconst (v := 1) 1 46 C (by decide +kernel) rfl rfl ?_
      refine ms_30 47 C (by decide +kernel) rfl hf (fun σ2 hf => ?_)
      refine zr_aload_n 0 48 C (by decide +kernel) rfl rfl ?_
      refine mg_0_55 (idx := 122) 51 C (by decide +kernel) rfl q_1046 ?_
      refine zr_aload_n 0 52 C (by decide +kernel) rfl rfl ?_
      refine mg_0_57 (idx := 311) 55 C (by decide +kernel) rfl q_1048 ?_
      refine zr_aload_n 0 56 C (by decide +kernel) rfl rfl ?_
      refine mg_0_58 (idx := 314) 59 C (by decide +kernel) rfl q_1049 ?_
      refine zr_iadd 60 C (by decide +kernel) rfl ?_
      refine zr_sipush (v := 1600) 1600 63 C (by decide +kernel) rfl rfl ?_
      refine zr_irem 64 C (by decide +kernel) rfl (by decide) ?_
      refine zr_iload_n 2 65 C (by decide +kernel) rfl rfl ?_
      refine ms_29 66 C (by decide +kernel) rfl hf (fun σ3 hf => ?_)
      refine zr_aload_n 0 67 C (by decide +kernel) rfl rfl ?_
      refine zr_dup 68 C (by decide +kernel) rfl rfl ?_
      refine mg_0_58 (idx := 314) 71 C (by decide +kernel) rfl q_1049 ?_
      refine zr_iconst (v := 1) 1 72 C (by decide +kernel) rfl rfl ?_
      refine zr_iadd 73 C (by decide +kernel) rfl ?_
      refine mp_0_58 (idx := 314) 76 C (by decide +kernel) rfl q_1049 hf (fun σ4 hf => ?_)
      obtain rfl := Option.some.inj hf
      exact zr_vret C (by decide +kernel) T
theorem y_M_tries : zY yX11_tries cX11_tries 4 none 3 := ⟨q_1389, q_90, by decide +kernel, by decide +kernel, by decide +kernel⟩
theorem k_M_tries {l : Launch} {d : zD} {F : zF} {h : Nat → Nat} {σ : zS} {lv : List (Option Value)} {pc : Nat} {own : String} {cc : ByteArray} {nL fr lo idx : Nat} {rest : List Value} {β : Type} {kf : Int32 → zS → Option β} {o2 : β} {p1 : Int32} {p2 : Int32} {p3 : Int32} (pc' : Nat) (C : zOk d F own cc nL fr lo) (hd : decode cc pc = .ok (.invokevirtual idx, 3)) (hp : pc + 3 = pc') (hq : Cond.methodLink own idx yX11_tries ∈ zW) (hm : 0 + 1 ≤ fr ∧ 8 + (4 + 11) + 0 ≤ lo) (hr : (rest.map fun v => v.category).sum ≤ 8) (hf : zbd (f_M_tries p1 p2 p3 σ) kf = some o2) (K : ∀ (r : Int32) (σ' : zS), kf r σ' = some o2 → V l d F 0 0 (MW d h σ') lv pc' (rest)) : V l d F 0 0 (MW d h σ) lv pc (.int p3 :: .int p2 :: .int p1 :: .ref (h 0) :: rest) := by
  obtain ⟨q, h1, h2⟩ := zbd_some hf
  exact zr_callV y_M_tries ⟨q_1388, q_66⟩ 0 rfl rfl (As := [.int p1, .int p2, .int p3]) (m_M_tries h1) rfl rfl pc' C hd hp hq hm hr (K _ _ h2)
end
section
/-! StepsBeyondModel.spreads(I)V -/
def f_M_spreads_213 (k62 : zS → Option (Int32 × zS))  (σ : zS) : Option (Int32 × zS) :=
  k62 σ
set_option maxRecDepth 4000 in
theorem w_M_spreads_213 {l : Launch} {d : zD} {F : zF} {h : Nat → Nat} {out : Int32 × zS} {k62 : zS → Option (Int32 × zS)} (C : zOk d F RX11 cX11_spreads 5 2 47) (T : zRt d F none none (MW d h out.2)) (H62 : ∀  (σ : zS), k62  σ = some out → V l d F 0 0 (MW d h σ) [some (.ref (h 0)), none, none, none, none] 62 [])  (σ : zS) (hf : f_M_spreads_213 k62  σ = some out) : V l d F 0 0 (MW d h σ) [some (.ref (h 0)), none, none, none, none] 213 [] := by
  unfold f_M_spreads_213 at hf
  refine zr_goto (off := -151) 62 C (by decide +kernel) (by decide) ?_
  exact H62 _ hf
def f_M_spreads_193 (k62 : zS → Option (Int32 × zS)) (x2 : Int32) (x3 : Int32) (x4 : Int32) (σ : zS) : Option (Int32 × zS) :=
  (if x3 ≤ 0 then
  f_M_spreads_213 k62 σ
  else
  zbd (f_M_cost 0 x3 x4 σ) fun r2 σ1 =>
  zbd (f_M_tries x2 (x2 - 1) r2 σ1) fun _ σ3 =>
  f_M_spreads_213 k62 σ3)
set_option maxRecDepth 4000 in
theorem w_M_spreads_193 {l : Launch} {d : zD} {F : zF} {h : Nat → Nat} {out : Int32 × zS} {k62 : zS → Option (Int32 × zS)} (C : zOk d F RX11 cX11_spreads 5 2 47) (T : zRt d F none none (MW d h out.2)) (H62 : ∀  (σ : zS), k62  σ = some out → V l d F 0 0 (MW d h σ) [some (.ref (h 0)), none, none, none, none] 62 []) (x2 : Int32) (x3 : Int32) (x4 : Int32) (σ : zS) (hf : f_M_spreads_193 k62 x2 x3 x4 σ = some out) : V l d F 0 0 (MW d h σ) [some (.ref (h 0)), none, some (.int x2), some (.int x3), some (.int x4)] 193 [] := by
  unfold f_M_spreads_193 at hf
  refine zr_iload_n 3 194 C (by decide +kernel) rfl rfl ?_
  refine zr_if_le (off := 19) 213 197 C (by decide +kernel) (by decide) rfl hf (fun hf => ?_) (fun hf => ?_)
  · refine zr_less (zA (zN (zN (zN (zN zE))))) ?_
    exact w_M_spreads_213 C T H62 _ hf
  · refine zr_aload_n 0 198 C (by decide +kernel) rfl rfl ?_
    refine zr_iload_n 2 199 C (by decide +kernel) rfl rfl ?_
    refine zr_iload_n 2 200 C (by decide +kernel) rfl rfl ?_
    refine zr_iconst (v := 1) 1 201 C (by decide +kernel) rfl rfl ?_
    refine zr_isub 202 C (by decide +kernel) rfl ?_
    refine zr_aload_n 0 203 C (by decide +kernel) rfl rfl ?_
    refine zr_iconst (v := 0) 0 204 C (by decide +kernel) rfl rfl ?_
    refine zr_iload_n 3 205 C (by decide +kernel) rfl rfl ?_
    refine zr_iload 4 207 C (by decide +kernel) rfl rfl ?_
    refine k_M_cost (idx := 318) 210 C (by decide +kernel) rfl q_1382 (zb2 rfl rfl) (Nat.le_of_ble_eq_true rfl) hf (fun r2 σ1 hf => ?_)
    refine k_M_tries (idx := 321) 213 C (by decide +kernel) rfl q_1386 (zb2 rfl rfl) (Nat.le_of_ble_eq_true rfl) hf (fun _ σ3 hf => ?_)
    refine zr_less (zA (zN (zN (zN (zN zE))))) ?_
    exact w_M_spreads_213 C T H62 _ hf
def f_M_spreads_167 (k62 : zS → Option (Int32 × zS)) (x2 : Int32) (x3 : Int32) (x4 : Int32) (σ : zS) : Option (Int32 × zS) :=
  (if 39 ≤ x4 then
  f_M_spreads_193 k62 x2 x3 x4 σ
  else
  zbd (f_M_cost 1 (x4 + 1) x3 σ) fun r2 σ1 =>
  zbd (f_M_tries x2 (x2 + 40) r2 σ1) fun _ σ3 =>
  f_M_spreads_193 k62 x2 x3 x4 σ3)
set_option maxRecDepth 4000 in
theorem w_M_spreads_167 {l : Launch} {d : zD} {F : zF} {h : Nat → Nat} {out : Int32 × zS} {k62 : zS → Option (Int32 × zS)} (C : zOk d F RX11 cX11_spreads 5 2 47) (T : zRt d F none none (MW d h out.2)) (H62 : ∀  (σ : zS), k62  σ = some out → V l d F 0 0 (MW d h σ) [some (.ref (h 0)), none, none, none, none] 62 []) (x2 : Int32) (x3 : Int32) (x4 : Int32) (σ : zS) (hf : f_M_spreads_167 k62 x2 x3 x4 σ = some out) : V l d F 0 0 (MW d h σ) [some (.ref (h 0)), none, some (.int x2), some (.int x3), some (.int x4)] 167 [] := by
  unfold f_M_spreads_167 at hf
  refine zr_iload 4 169 C (by decide +kernel) rfl rfl ?_
  refine zr_bipush (v := 39) 39 171 C (by decide +kernel) rfl rfl ?_
  refine zr_icmp_ge (off := 22) 193 174 C (by decide +kernel) (by decide) rfl hf (fun hf => ?_) (fun hf => ?_)
  · exact w_M_spreads_193 C T H62 _ _ _ _ hf
  · refine zr_aload_n 0 175 C (by decide +kernel) rfl rfl ?_
    refine zr_iload_n 2 176 C (by decide +kernel) rfl rfl ?_
    refine zr_iload_n 2 177 C (by decide +kernel) rfl rfl ?_
    refine zr_bipush (v := 40) 40 179 C (by decide +kernel) rfl rfl ?_
    refine zr_iadd 180 C (by decide +kernel) rfl ?_
    refine zr_aload_n 0 181 C (by decide +kernel) rfl rfl ?_
    refine zr_iconst (v := 1) 1 182 C (by decide +kernel) rfl rfl ?_
    refine zr_iload 4 184 C (by decide +kernel) rfl rfl ?_
    refine zr_iconst (v := 1) 1 185 C (by decide +kernel) rfl rfl ?_
    refine zr_iadd 186 C (by decide +kernel) rfl ?_
    refine zr_iload_n 3 187 C (by decide +kernel) rfl rfl ?_
    refine k_M_cost (idx := 318) 190 C (by decide +kernel) rfl q_1382 (zb2 rfl rfl) (Nat.le_of_ble_eq_true rfl) hf (fun r2 σ1 hf => ?_)
    refine k_M_tries (idx := 321) 193 C (by decide +kernel) rfl q_1386 (zb2 rfl rfl) (Nat.le_of_ble_eq_true rfl) hf (fun _ σ3 hf => ?_)
    exact w_M_spreads_193 C T H62 _ _ _ _ hf
def f_M_spreads_143 (k62 : zS → Option (Int32 × zS)) (x2 : Int32) (x3 : Int32) (x4 : Int32) (σ : zS) : Option (Int32 × zS) :=
  (if 39 ≤ x3 then
  f_M_spreads_167 k62 x2 x3 x4 σ
  else
  zbd (f_M_cost 0 (x3 + 1) x4 σ) fun r2 σ1 =>
  zbd (f_M_tries x2 (x2 + 1) r2 σ1) fun _ σ3 =>
  f_M_spreads_167 k62 x2 x3 x4 σ3)
set_option maxRecDepth 4000 in
theorem w_M_spreads_143 {l : Launch} {d : zD} {F : zF} {h : Nat → Nat} {out : Int32 × zS} {k62 : zS → Option (Int32 × zS)} (C : zOk d F RX11 cX11_spreads 5 2 47) (T : zRt d F none none (MW d h out.2)) (H62 : ∀  (σ : zS), k62  σ = some out → V l d F 0 0 (MW d h σ) [some (.ref (h 0)), none, none, none, none] 62 []) (x2 : Int32) (x3 : Int32) (x4 : Int32) (σ : zS) (hf : f_M_spreads_143 k62 x2 x3 x4 σ = some out) : V l d F 0 0 (MW d h σ) [some (.ref (h 0)), none, some (.int x2), some (.int x3), some (.int x4)] 143 [] := by
  unfold f_M_spreads_143 at hf
  refine zr_iload_n 3 144 C (by decide +kernel) rfl rfl ?_
  refine zr_bipush (v := 39) 39 146 C (by decide +kernel) rfl rfl ?_
  refine zr_icmp_ge (off := 21) 167 149 C (by decide +kernel) (by decide) rfl hf (fun hf => ?_) (fun hf => ?_)
  · exact w_M_spreads_167 C T H62 _ _ _ _ hf
  · refine zr_aload_n 0 150 C (by decide +kernel) rfl rfl ?_
    refine zr_iload_n 2 151 C (by decide +kernel) rfl rfl ?_
    refine zr_iload_n 2 152 C (by decide +kernel) rfl rfl ?_
    refine zr_iconst (v := 1) 1 153 C (by decide +kernel) rfl rfl ?_
    refine zr_iadd 154 C (by decide +kernel) rfl ?_
    refine zr_aload_n 0 155 C (by decide +kernel) rfl rfl ?_
    refine zr_iconst (v := 0) 0 156 C (by decide +kernel) rfl rfl ?_
    refine zr_iload_n 3 157 C (by decide +kernel) rfl rfl ?_
    refine zr_iconst (v := 1) 1 158 C (by decide +kernel) rfl rfl ?_
    refine zr_iadd 159 C (by decide +kernel) rfl ?_
    refine zr_iload 4 161 C (by decide +kernel) rfl rfl ?_
    refine k_M_cost (idx := 318) 164 C (by decide +kernel) rfl q_1382 (zb2 rfl rfl) (Nat.le_of_ble_eq_true rfl) hf (fun r2 σ1 hf => ?_)
    refine k_M_tries (idx := 321) 167 C (by decide +kernel) rfl q_1386 (zb2 rfl rfl) (Nat.le_of_ble_eq_true rfl) hf (fun _ σ3 hf => ?_)
    exact w_M_spreads_167 C T H62 _ _ _ _ hf
def f_M_spreads_62b (k62 : zS → Option (Int32 × zS))  (σ : zS) : Option (Int32 × zS) :=
  (if (σ.1 58) ≤ 0 then
  some (0, σ)
  else
  zin (σ.1 57) 1600 (zlt (σ.2 29 (σ.1 57).toNatClampNeg) fun v1 => 
  zlt (zsg σ 57 (zrem ((σ.1 57) + 1) 1600)) fun σ2 =>
  zlt (zsg σ2 58 ((σ2.1 58) - 1)) fun σ3 =>
  zin v1 1600 (zlt (zsa σ3 30 v1 (vp_nar .boolean 0)) fun σ4 =>
  zlt (zrem v1 40) fun v5 => 
  zlt (v1 / 40) fun v6 => 
  (if v6 ≤ 0 then
  f_M_spreads_143 k62 v1 v5 v6 σ4
  else
  zbd (f_M_cost 1 v6 v5 σ4) fun r8 σ7 =>
  zbd (f_M_tries v1 (v1 - 40) r8 σ7) fun _ σ9 =>
  f_M_spreads_143 k62 v1 v5 v6 σ9))))
set_option maxRecDepth 4000 in
theorem w_M_spreads_62b {l : Launch} {d : zD} {F : zF} {h : Nat → Nat} {out : Int32 × zS} {k62 : zS → Option (Int32 × zS)} (C : zOk d F RX11 cX11_spreads 5 2 47) (T : zRt d F none none (MW d h out.2)) (H62 : ∀  (σ : zS), k62  σ = some out → V l d F 0 0 (MW d h σ) [some (.ref (h 0)), none, none, none, none] 62 [])  (σ : zS) (hf : f_M_spreads_62b k62  σ = some out) : V l d F 0 0 (MW d h σ) [some (.ref (h 0)), none, none, none, none] 62 [] := by
  unfold f_M_spreads_62b at hf
  refine zr_aload_n 0 63 C (by decide +kernel) rfl rfl ?_
  refine mg_0_58 (idx := 314) 66 C (by decide +kernel) rfl q_1049 ?_
  refine zr_if_le (off := 150) 216 69 C (by decide +kernel) (by decide) rfl hf (fun hf => ?_) (fun hf => ?_)
  · obtain rfl := Option.some.inj hf
    exact zr_vret C (by decide +kernel) T
  · refine zr_aload_n 0 70 C (by decide +kernel) rfl rfl ?_
    refine mg_0_55 (idx := 122) 73 C (by decide +kernel) rfl q_1046 ?_
    refine zr_aload_n 0 74 C (by decide +kernel) rfl rfl ?_
    refine mg_0_57 (idx := 311) 77 C (by decide +kernel) rfl q_1048 ?_
    refine ml_29 78 C (by decide +kernel) rfl hf (fun hf => ?_)
    refine zr_name hf (fun v1 hf => ?_)
    refine zr_istore_n 2 [some (.ref (h 0)), none, some (.int v1), none, none] 79 C (by decide +kernel) rfl (by decide) rfl rfl ?_
    refine zr_aload_n 0 80 C (by decide +kernel) rfl rfl ?_
    refine zr_aload_n 0 81 C (by decide +kernel) rfl rfl ?_
    refine mg_0_57 (idx := 311) 84 C (by decide +kernel) rfl q_1048 ?_
    refine zr_iconst (v := 1) 1 85 C (by decide +kernel) rfl rfl ?_
    refine zr_iadd 86 C (by decide +kernel) rfl ?_
    refine zr_sipush (v := 1600) 1600 89 C (by decide +kernel) rfl rfl ?_
    refine zr_irem 90 C (by decide +kernel) rfl (by decide) ?_
    refine mp_0_57 (idx := 311) 93 C (by decide +kernel) rfl q_1048 hf (fun σ2 hf => ?_)
    refine zr_aload_n 0 94 C (by decide +kernel) rfl rfl ?_
    refine zr_dup 95 C (by decide +kernel) rfl rfl ?_
    refine mg_0_58 (idx := 314) 98 C (by decide +kernel) rfl q_1049 ?_
    refine zr_iconst (v := 1) 1 99 C (by decide +kernel) rfl rfl ?_
    refine zr_isub 100 C (by decide +kernel) rfl ?_
    refine mp_0_58 (idx := 314) 103 C (by decide +kernel) rfl q_1049 hf (fun σ3 hf => ?_)
    refine zr_aload_n 0 104 C (by decide +kernel) rfl rfl ?_
    refine mg_0_56 (idx := 125) 107 C (by decide +kernel) rfl q_1047 ?_
    refine zr_iload_n 2 108 C (by decide +kernel) rfl rfl ?_
    refine zr_iconst (v := 0) 0 109 C (by decide +kernel) rfl rfl ?_
    refine ms_30 110 C (by decide +kernel) rfl hf (fun σ4 hf => ?_)
    refine zr_iload_n 2 111 C (by decide +kernel) rfl rfl ?_
    refine zr_bipush (v := 40) 40 113 C (by decide +kernel) rfl rfl ?_
    refine zr_irem 114 C (by decide +kernel) rfl (by decide) ?_
    refine zr_name hf (fun v5 hf => ?_)
    refine zr_istore_n 3 [some (.ref (h 0)), none, some (.int v1), some (.int v5), none] 115 C (by decide +kernel) rfl (by decide) rfl rfl ?_
    refine zr_iload_n 2 116 C (by decide +kernel) rfl rfl ?_
    refine zr_bipush (v := 40) 40 118 C (by decide +kernel) rfl rfl ?_
    refine zr_idiv 119 C (by decide +kernel) rfl (by decide) ?_
    refine zr_name hf (fun v6 hf => ?_)
    refine zr_istore 4 [some (.ref (h 0)), none, some (.int v1), some (.int v5), some (.int v6)] 121 C (by decide +kernel) rfl (by decide) rfl rfl ?_
    refine zr_iload 4 123 C (by decide +kernel) rfl rfl ?_
    refine zr_if_le (off := 20) 143 126 C (by decide +kernel) (by decide) rfl hf (fun hf => ?_) (fun hf => ?_)
    · exact w_M_spreads_143 C T H62 _ _ _ _ hf
    · refine zr_aload_n 0 127 C (by decide +kernel) rfl rfl ?_
      refine zr_iload_n 2 128 C (by decide +kernel) rfl rfl ?_
      refine zr_iload_n 2 129 C (by decide +kernel) rfl rfl ?_
      refine zr_bipush (v := 40) 40 131 C (by decide +kernel) rfl rfl ?_
      refine zr_isub 132 C (by decide +kernel) rfl ?_
      refine zr_aload_n 0 133 C (by decide +kernel) rfl rfl ?_
      refine zr_iconst (v := 1) 1 134 C (by decide +kernel) rfl rfl ?_
      refine zr_iload 4 136 C (by decide +kernel) rfl rfl ?_
      refine zr_iload_n 3 137 C (by decide +kernel) rfl rfl ?_
      refine k_M_cost (idx := 318) 140 C (by decide +kernel) rfl q_1382 (zb2 rfl rfl) (Nat.le_of_ble_eq_true rfl) hf (fun r8 σ7 hf => ?_)
      refine k_M_tries (idx := 321) 143 C (by decide +kernel) rfl q_1386 (zb2 rfl rfl) (Nat.le_of_ble_eq_true rfl) hf (fun _ σ9 hf => ?_)
      exact w_M_spreads_143 C T H62 _ _ _ _ hf
def f_M_spreads_62  : Nat → zS → Option (Int32 × zS)
  | 0, _ => none
  | n + 1,  σ => f_M_spreads_62b (fun  σ => f_M_spreads_62  n  σ)  σ
theorem w_M_spreads_62 {l : Launch} {d : zD} {F : zF} {h : Nat → Nat} {out : Int32 × zS}  (C : zOk d F RX11 cX11_spreads 5 2 47) (T : zRt d F none none (MW d h out.2))  : ∀ (n : Nat)  (σ : zS), f_M_spreads_62  n  σ = some out → V l d F 0 0 (MW d h σ) [some (.ref (h 0)), none, none, none, none] 62 [] := by
  intro n
  induction n with
  | zero =>
    intro  σ hf
    cases hf
  | succ n ih =>
    intro  σ hf
    exact w_M_spreads_62b C T ih  σ hf
def f_M_spreads_2b (k2 : Int32 → Int32 → zS → Option (Int32 × zS)) (x1 : Int32) (x2 : Int32) (σ : zS) : Option (Int32 × zS) :=
  (if 1600 ≤ x2 then
  zin x1 1600 (zlt (zsa σ 28 x1 0) fun σ1 =>
  zlt (zsg σ1 57 0) fun σ2 =>
  zlt (zsg σ2 58 1) fun σ3 =>
  zin 0 1600 (zlt (zsa σ3 29 0 x1) fun σ4 =>
  zin x1 1600 (zlt (zsa σ4 30 x1 (vp_nar .boolean 1)) fun σ5 =>
  f_M_spreads_62 zfu σ5)))
  else
  zin x2 1600 (zlt (zsa σ 28 x2 1000000000) fun σ6 =>
  zin x2 1600 (zlt (zsa σ6 30 x2 (vp_nar .boolean 0)) fun σ7 =>
  k2 x1 (x2 + 1) σ7)))
set_option maxRecDepth 4000 in
theorem w_M_spreads_2b {l : Launch} {d : zD} {F : zF} {h : Nat → Nat} {out : Int32 × zS} {k2 : Int32 → Int32 → zS → Option (Int32 × zS)} (C : zOk d F RX11 cX11_spreads 5 2 47) (T : zRt d F none none (MW d h out.2)) (H2 : ∀ (x1 : Int32) (x2 : Int32) (σ : zS), k2 x1 x2 σ = some out → V l d F 0 0 (MW d h σ) [some (.ref (h 0)), some (.int x1), some (.int x2), none, none] 2 []) (x1 : Int32) (x2 : Int32) (σ : zS) (hf : f_M_spreads_2b k2 x1 x2 σ = some out) : V l d F 0 0 (MW d h σ) [some (.ref (h 0)), some (.int x1), some (.int x2), none, none] 2 [] := by
  unfold f_M_spreads_2b at hf
  refine zr_iload_n 2 3 C (by decide +kernel) rfl rfl ?_
  refine zr_sipush (v := 1600) 1600 6 C (by decide +kernel) rfl rfl ?_
  refine zr_icmp_ge (off := 25) 31 9 C (by decide +kernel) (by decide) rfl hf (fun hf => ?_) (fun hf => ?_)
  · refine zr_aload_n 0 32 C (by decide +kernel) rfl rfl ?_
    refine mg_0_54 (idx := 119) 35 C (by decide +kernel) rfl q_1045 ?_
    refine zr_iload_n 1 36 C (by decide +kernel) rfl rfl ?_
    refine zr_iconst (v := 0) 0 37 C (by decide +kernel) rfl rfl ?_
    refine ms_28 38 C (by decide +kernel) rfl hf (fun σ1 hf => ?_)
    refine zr_aload_n 0 39 C (by decide +kernel) rfl rfl ?_
    refine zr_iconst (v := 0) 0 40 C (by decide +kernel) rfl rfl ?_
    refine mp_0_57 (idx := 311) 43 C (by decide +kernel) rfl q_1048 hf (fun σ2 hf => ?_)
    refine zr_aload_n 0 44 C (by decide +kernel) rfl rfl ?_
    refine zr_iconst (v := 1) 1 45 C (by decide +kernel) rfl rfl ?_
    refine mp_0_58 (idx := 314) 48 C (by decide +kernel) rfl q_1049 hf (fun σ3 hf => ?_)
    refine zr_aload_n 0 49 C (by decide +kernel) rfl rfl ?_
    refine mg_0_55 (idx := 122) 52 C (by decide +kernel) rfl q_1046 ?_
    refine zr_iconst (v := 0) 0 53 C (by decide +kernel) rfl rfl ?_
    refine zr_iload_n 1 54 C (by decide +kernel) rfl rfl ?_
    refine ms_29 55 C (by decide +kernel) rfl hf (fun σ4 hf => ?_)
    refine zr_aload_n 0 56 C (by decide +kernel) rfl rfl ?_
    refine mg_0_56 (idx := 125) 59 C (by decide +kernel) rfl q_1047 ?_
    refine zr_iload_n 1 60 C (by decide +kernel) rfl rfl ?_
    refine zr_iconst (v := 1) 1 61 C (by decide +kernel) rfl rfl ?_
    refine ms_30 62 C (by decide +kernel) rfl hf (fun σ5 hf => ?_)
    refine zr_less (zA (zN (zN (zN (zN zE))))) ?_
    exact w_M_spreads_62 C T zfu _ hf
  · refine zr_aload_n 0 10 C (by decide +kernel) rfl rfl ?_
    refine mg_0_54 (idx := 119) 13 C (by decide +kernel) rfl q_1045 ?_
    refine zr_iload_n 2 14 C (by decide +kernel) rfl rfl ?_
    refine zr_ldc_w (v := 1000000000) (i := 317) 17 C (by decide +kernel) rfl q_1381 ?_
    refine ms_28 18 C (by decide +kernel) rfl hf (fun σ6 hf => ?_)
    refine zr_aload_n 0 19 C (by decide +kernel) rfl rfl ?_
    refine mg_0_56 (idx := 125) 22 C (by decide +kernel) rfl q_1047 ?_
    refine zr_iload_n 2 23 C (by decide +kernel) rfl rfl ?_
    refine zr_iconst (v := 0) 0 24 C (by decide +kernel) rfl rfl ?_
    refine ms_30 25 C (by decide +kernel) rfl hf (fun σ7 hf => ?_)
    refine zr_iinc (j := 1) 2 [some (.ref (h 0)), some (.int x1), some (.int (x2 + 1)), none, none] 28 C (by decide +kernel) rfl rfl rfl (by decide) rfl rfl ?_
    refine zr_goto (off := -26) 2 C (by decide +kernel) (by decide) ?_
    exact H2 _ _ _ hf
def f_M_spreads_2  : Nat → Int32 → Int32 → zS → Option (Int32 × zS)
  | 0, _, _, _ => none
  | n + 1, x1, x2,  σ => f_M_spreads_2b (fun x1 x2 σ => f_M_spreads_2  n x1 x2 σ) x1 x2 σ
theorem w_M_spreads_2 {l : Launch} {d : zD} {F : zF} {h : Nat → Nat} {out : Int32 × zS}  (C : zOk d F RX11 cX11_spreads 5 2 47) (T : zRt d F none none (MW d h out.2))  : ∀ (n : Nat) (x1 : Int32) (x2 : Int32) (σ : zS), f_M_spreads_2  n x1 x2 σ = some out → V l d F 0 0 (MW d h σ) [some (.ref (h 0)), some (.int x1), some (.int x2), none, none] 2 [] := by
  intro n
  induction n with
  | zero =>
    intro x1 x2 σ hf
    cases hf
  | succ n ih =>
    intro x1 x2 σ hf
    exact w_M_spreads_2b C T ih x1 x2 σ hf
def f_M_spreads (p1 : Int32) (σ : zS) : Option (Int32 × zS) :=
  f_M_spreads_2 zfu p1 0 σ
set_option maxRecDepth 4000 in
theorem m_M_spreads {l : Launch} {d : zD} {h : Nat → Nat} {out : Int32 × zS} {σ : zS} {p1 : Int32} (hf : f_M_spreads p1 σ = some out) : zM l yX11_spreads cX11_spreads 5 none 2 47 d [.ref (h 0), .int p1] (MW d h σ) (MW d h out.2) none := by
  refine zM_of [some (.ref (h 0)), some (.int p1), none, none, none] (by decide +kernel) rfl (Nat.le_of_ble_eq_true rfl) (fun F C T => ?_)
  unfold f_M_spreads at hf
  refine zr_iconst (v := 0) 0 1 C (by decide +kernel) rfl rfl ?_
  refine zr_istore_n 2 [some (.ref (h 0)), some (.int p1), some (.int 0), none, none] 2 C (by decide +kernel) rfl (by decide) rfl rfl ?_
  exact w_M_spreads_2 C T zfu _ _ _ hf
theorem y_M_spreads : zY yX11_spreads cX11_spreads 5 none 1 := ⟨q_1380, q_90, by decide +kernel, by decide +kernel, by decide +kernel⟩
theorem k_M_spreads {l : Launch} {d : zD} {F : zF} {h : Nat → Nat} {σ : zS} {lv : List (Option Value)} {pc : Nat} {own : String} {cc : ByteArray} {nL fr lo idx : Nat} {rest : List Value} {β : Type} {kf : Int32 → zS → Option β} {o2 : β} {p1 : Int32} (pc' : Nat) (C : zOk d F own cc nL fr lo) (hd : decode cc pc = .ok (.invokevirtual idx, 3)) (hp : pc + 3 = pc') (hq : Cond.methodLink own idx yX11_spreads ∈ zW) (hm : 2 + 1 ≤ fr ∧ 8 + (5 + 11) + 47 ≤ lo) (hr : (rest.map fun v => v.category).sum ≤ 8) (hf : zbd (f_M_spreads p1 σ) kf = some o2) (K : ∀ (r : Int32) (σ' : zS), kf r σ' = some o2 → V l d F 0 0 (MW d h σ') lv pc' (rest)) : V l d F 0 0 (MW d h σ) lv pc (.int p1 :: .ref (h 0) :: rest) := by
  obtain ⟨q, h1, h2⟩ := zbd_some hf
  exact zr_callV y_M_spreads ⟨q_1379, q_64⟩ 0 rfl rfl (As := [.int p1]) (m_M_spreads h1) rfl rfl pc' C hd hp hq hm hr (K _ _ h2)
/-! StepsBeyondModel.steps(II)I -/
def f_M_steps (p1 : Int32) (p2 : Int32) (σ : zS) : Option (Int32 × zS) :=
  zbd (f_M_isPlace p1 σ) fun r2 σ1 =>
  (if r2 = 0 then
  some (-2, σ1)
  else
  zbd (f_M_isPlace p2 σ1) fun r4 σ3 =>
  (if r4 = 0 then
  some (-2, σ3)
  else
  zbd (f_M_spreads p1 σ3) fun _ σ5 =>
  zin p2 1600 (some (σ5.2 28 p2.toNatClampNeg, σ5))))
set_option maxRecDepth 4000 in
theorem m_M_steps {l : Launch} {d : zD} {h : Nat → Nat} {out : Int32 × zS} {σ : zS} {p1 : Int32} {p2 : Int32} (hf : f_M_steps p1 p2 σ = some out) : zM l yX11_steps cX11_steps 3 (some .int) 3 71 d [.ref (h 0), .int p1, .int p2] (MW d h σ) (MW d h out.2) (some (.int out.1)) := by
  refine zM_of [some (.ref (h 0)), some (.int p1), some (.int p2)] (by decide +kernel) rfl (Nat.le_of_ble_eq_true rfl) (fun F C T => ?_)
  unfold f_M_steps at hf
  refine zr_iload_n 1 1 C (by decide +kernel) rfl rfl ?_
  refine k_M_isPlace (idx := 150) 4 C (by decide +kernel) rfl q_1178 (zb2 rfl rfl) (Nat.le_of_ble_eq_true rfl) hf (fun r2 σ1 hf => ?_)
  refine zr_if_eq (off := 10) 14 7 C (by decide +kernel) (by decide) rfl hf (fun hf => ?_) (fun hf => ?_)
  · refine zr_bipush (v := (-2)) (-2) 16 C (by decide +kernel) rfl rfl ?_
    obtain rfl := Option.some.inj hf
    exact zr_iret C (by decide +kernel) T
  · refine zr_iload_n 2 8 C (by decide +kernel) rfl rfl ?_
    refine k_M_isPlace (idx := 150) 11 C (by decide +kernel) rfl q_1178 (zb2 rfl rfl) (Nat.le_of_ble_eq_true rfl) hf (fun r4 σ3 hf => ?_)
    refine zr_if_ne (off := 6) 17 14 C (by decide +kernel) (by decide) rfl hf (fun hf => ?_) (fun hf => ?_)
    · refine zr_aload_n 0 18 C (by decide +kernel) rfl rfl ?_
      refine zr_iload_n 1 19 C (by decide +kernel) rfl rfl ?_
      refine k_M_spreads (idx := 325) 22 C (by decide +kernel) rfl q_1377 (zb2 rfl rfl) (Nat.le_of_ble_eq_true rfl) hf (fun _ σ5 hf => ?_)
      refine zr_aload_n 0 23 C (by decide +kernel) rfl rfl ?_
      refine mg_0_54 (idx := 119) 26 C (by decide +kernel) rfl q_1045 ?_
      refine zr_iload_n 2 27 C (by decide +kernel) rfl rfl ?_
      refine ml_28 28 C (by decide +kernel) rfl hf (fun hf => ?_)
      obtain rfl := Option.some.inj hf
      exact zr_iret C (by decide +kernel) T
    · refine zr_bipush (v := (-2)) (-2) 16 C (by decide +kernel) rfl rfl ?_
      obtain rfl := Option.some.inj hf
      exact zr_iret C (by decide +kernel) T
theorem y_M_steps : zY yX11_steps cX11_steps 3 (some .int) 2 := ⟨q_1376, q_90, by decide +kernel, by decide +kernel, by decide +kernel⟩
theorem k_M_steps {l : Launch} {d : zD} {F : zF} {h : Nat → Nat} {σ : zS} {lv : List (Option Value)} {pc : Nat} {own : String} {cc : ByteArray} {nL fr lo idx : Nat} {rest : List Value} {β : Type} {kf : Int32 → zS → Option β} {o2 : β} {p1 : Int32} {p2 : Int32} (pc' : Nat) (C : zOk d F own cc nL fr lo) (hd : decode cc pc = .ok (.invokevirtual idx, 3)) (hp : pc + 3 = pc') (hq : Cond.methodLink own idx yX11_steps ∈ zW) (hm : 3 + 1 ≤ fr ∧ 8 + (3 + 11) + 71 ≤ lo) (hr : (rest.map fun v => v.category).sum ≤ 8) (hf : zbd (f_M_steps p1 p2 σ) kf = some o2) (K : ∀ (r : Int32) (σ' : zS), kf r σ' = some o2 → V l d F 0 0 (MW d h σ') lv pc' (.int r :: rest)) : V l d F 0 0 (MW d h σ) lv pc (.int p2 :: .int p1 :: .ref (h 0) :: rest) := by
  obtain ⟨q, h1, h2⟩ := zbd_some hf
  exact zr_callV y_M_steps ⟨q_1374, q_1375⟩ 0 rfl rfl (As := [.int p1, .int p2]) (m_M_steps h1) rfl rfl pc' C hd hp hq hm hr (K _ _ h2)
/-! StepsBeyondModel.person(II)I -/
def f_M_person (p1 : Int32) (p2 : Int32) (σ : zS) : Option (Int32 × zS) :=
  zbd (f_M_isPlace p1 σ) fun r2 σ1 =>
  (if r2 = 0 then
  some (-2, σ1)
  else
  zbd (f_M_isShape p2 σ1) fun r4 σ3 =>
  (if r4 = 0 then
  some (-1, σ3)
  else
  (if (σ3.1 14) = 8 then
  some (-4, σ3)
  else
  zin (σ3.1 14) 8 (zlt (zsa σ3 11 (σ3.1 14) p1) fun σ5 =>
  zin (σ5.1 14) 8 (zlt (zsa σ5 12 (σ5.1 14) p2) fun σ6 =>
  zlt (zsg σ6 14 ((σ6.1 14) + 1)) fun σ7 =>
  some ((σ7.1 14) - 1, σ7))))))
set_option maxRecDepth 4000 in
theorem m_M_person {l : Launch} {d : zD} {h : Nat → Nat} {out : Int32 × zS} {σ : zS} {p1 : Int32} {p2 : Int32} (hf : f_M_person p1 p2 σ = some out) : zM l yX11_person cX11_person 3 (some .int) 2 43 d [.ref (h 0), .int p1, .int p2] (MW d h σ) (MW d h out.2) (some (.int out.1)) := by
  refine zM_of [some (.ref (h 0)), some (.int p1), some (.int p2)] (by decide +kernel) rfl (Nat.le_of_ble_eq_true rfl) (fun F C T => ?_)
  unfold f_M_person at hf
  refine zr_iload_n 1 1 C (by decide +kernel) rfl rfl ?_
  refine k_M_isPlace (idx := 150) 4 C (by decide +kernel) rfl q_1178 (zb2 rfl rfl) (Nat.le_of_ble_eq_true rfl) hf (fun r2 σ1 hf => ?_)
  refine zr_if_ne (off := 6) 10 7 C (by decide +kernel) (by decide) rfl hf (fun hf => ?_) (fun hf => ?_)
  · refine zr_aload_n 0 11 C (by decide +kernel) rfl rfl ?_
    refine zr_iload_n 2 12 C (by decide +kernel) rfl rfl ?_
    refine k_M_isShape (idx := 263) 15 C (by decide +kernel) rfl q_1313 (zb2 rfl rfl) (Nat.le_of_ble_eq_true rfl) hf (fun r4 σ3 hf => ?_)
    refine zr_if_ne (off := 5) 20 18 C (by decide +kernel) (by decide) rfl hf (fun hf => ?_) (fun hf => ?_)
    · refine zr_aload_n 0 21 C (by decide +kernel) rfl rfl ?_
      refine mg_0_14 (idx := 328) 24 C (by decide +kernel) rfl q_1005 ?_
      refine zr_bipush (v := 8) 8 26 C (by decide +kernel) rfl rfl ?_
      refine zr_icmp_ne (off := 6) 32 29 C (by decide +kernel) (by decide) rfl hf (fun hf => ?_) (fun hf => ?_)
      · refine zr_aload_n 0 33 C (by decide +kernel) rfl rfl ?_
        refine mg_0_15 (idx := 40) 36 C (by decide +kernel) rfl q_1006 ?_
        refine zr_aload_n 0 37 C (by decide +kernel) rfl rfl ?_
        refine mg_0_14 (idx := 328) 40 C (by decide +kernel) rfl q_1005 ?_
        refine zr_iload_n 1 41 C (by decide +kernel) rfl rfl ?_
        refine ms_11 42 C (by decide +kernel) rfl hf (fun σ5 hf => ?_)
        refine zr_aload_n 0 43 C (by decide +kernel) rfl rfl ?_
        refine mg_0_16 (idx := 43) 46 C (by decide +kernel) rfl q_1007 ?_
        refine zr_aload_n 0 47 C (by decide +kernel) rfl rfl ?_
        refine mg_0_14 (idx := 328) 50 C (by decide +kernel) rfl q_1005 ?_
        refine zr_iload_n 2 51 C (by decide +kernel) rfl rfl ?_
        refine ms_12 52 C (by decide +kernel) rfl hf (fun σ6 hf => ?_)
        refine zr_aload_n 0 53 C (by decide +kernel) rfl rfl ?_
        refine zr_dup 54 C (by decide +kernel) rfl rfl ?_
        refine mg_0_14 (idx := 328) 57 C (by decide +kernel) rfl q_1005 ?_
        refine zr_iconst (v := 1) 1 58 C (by decide +kernel) rfl rfl ?_
        refine zr_iadd 59 C (by decide +kernel) rfl ?_
        refine mp_0_14 (idx := 328) 62 C (by decide +kernel) rfl q_1005 hf (fun σ7 hf => ?_)
        refine zr_aload_n 0 63 C (by decide +kernel) rfl rfl ?_
        refine mg_0_14 (idx := 328) 66 C (by decide +kernel) rfl q_1005 ?_
        refine zr_iconst (v := 1) 1 67 C (by decide +kernel) rfl rfl ?_
        refine zr_isub 68 C (by decide +kernel) rfl ?_
        obtain rfl := Option.some.inj hf
        exact zr_iret C (by decide +kernel) T
      · refine zr_bipush (v := (-4)) (-4) 31 C (by decide +kernel) rfl rfl ?_
        obtain rfl := Option.some.inj hf
        exact zr_iret C (by decide +kernel) T
    · refine zr_iconst (v := (-1)) (-1) 19 C (by decide +kernel) rfl rfl ?_
      obtain rfl := Option.some.inj hf
      exact zr_iret C (by decide +kernel) T
  · refine zr_bipush (v := (-2)) (-2) 9 C (by decide +kernel) rfl rfl ?_
    obtain rfl := Option.some.inj hf
    exact zr_iret C (by decide +kernel) T
theorem y_M_person : zY yX11_person cX11_person 3 (some .int) 2 := ⟨q_1393, q_90, by decide +kernel, by decide +kernel, by decide +kernel⟩
theorem k_M_person {l : Launch} {d : zD} {F : zF} {h : Nat → Nat} {σ : zS} {lv : List (Option Value)} {pc : Nat} {own : String} {cc : ByteArray} {nL fr lo idx : Nat} {rest : List Value} {β : Type} {kf : Int32 → zS → Option β} {o2 : β} {p1 : Int32} {p2 : Int32} (pc' : Nat) (C : zOk d F own cc nL fr lo) (hd : decode cc pc = .ok (.invokevirtual idx, 3)) (hp : pc + 3 = pc') (hq : Cond.methodLink own idx yX11_person ∈ zW) (hm : 2 + 1 ≤ fr ∧ 8 + (3 + 11) + 43 ≤ lo) (hr : (rest.map fun v => v.category).sum ≤ 8) (hf : zbd (f_M_person p1 p2 σ) kf = some o2) (K : ∀ (r : Int32) (σ' : zS), kf r σ' = some o2 → V l d F 0 0 (MW d h σ') lv pc' (.int r :: rest)) : V l d F 0 0 (MW d h σ) lv pc (.int p2 :: .int p1 :: .ref (h 0) :: rest) := by
  obtain ⟨q, h1, h2⟩ := zbd_some hf
  exact zr_callV y_M_person ⟨q_1391, q_1392⟩ 0 rfl rfl (As := [.int p1, .int p2]) (m_M_person h1) rfl rfl pc' C hd hp hq hm hr (K _ _ h2)
/-! StepsBeyondModel.isPerson(I)Z -/
def f_M_isPerson (p1 : Int32) (σ : zS) : Option (Int32 × zS) :=
  zbd (f_M_in p1 0 ((σ.1 14) - 1) σ) fun r2 σ1 =>
  zbo r2 (some (r2, σ1))
set_option maxRecDepth 4000 in
theorem m_M_isPerson {l : Launch} {d : zD} {h : Nat → Nat} {out : Int32 × zS} {σ : zS} {p1 : Int32} (hf : f_M_isPerson p1 σ = some out) : zM l yX11_isPerson cX11_isPerson 2 (some .boolean) 1 22 d [.ref (h 0), .int p1] (MW d h σ) (MW d h out.2) (some (.int out.1)) := by
  refine zM_of [some (.ref (h 0)), some (.int p1)] (by decide +kernel) rfl (Nat.le_of_ble_eq_true rfl) (fun F C T => ?_)
  unfold f_M_isPerson at hf
  refine zr_iload_n 1 1 C (by decide +kernel) rfl rfl ?_
  refine zr_iconst (v := 0) 0 2 C (by decide +kernel) rfl rfl ?_
  refine zr_aload_n 0 3 C (by decide +kernel) rfl rfl ?_
  refine mg_0_14 (idx := 328) 6 C (by decide +kernel) rfl q_1005 ?_
  refine zr_iconst (v := 1) 1 7 C (by decide +kernel) rfl rfl ?_
  refine zr_isub 8 C (by decide +kernel) rfl ?_
  refine k_M_in (idx := 139) 11 C (by decide +kernel) rfl q_1181 (zb2 rfl rfl) (Nat.le_of_ble_eq_true rfl) hf (fun r2 σ1 hf => ?_)
  obtain ⟨hz, hf⟩ := zbo_some hf
  obtain rfl := Option.some.inj hf
  exact zr_zret C (by decide +kernel) hz T
theorem y_M_isPerson : zY yX11_isPerson cX11_isPerson 2 (some .boolean) 1 := ⟨q_1401, q_90, by decide +kernel, by decide +kernel, by decide +kernel⟩
theorem k_M_isPerson {l : Launch} {d : zD} {F : zF} {h : Nat → Nat} {σ : zS} {lv : List (Option Value)} {pc : Nat} {own : String} {cc : ByteArray} {nL fr lo idx : Nat} {rest : List Value} {β : Type} {kf : Int32 → zS → Option β} {o2 : β} {p1 : Int32} (pc' : Nat) (C : zOk d F own cc nL fr lo) (hd : decode cc pc = .ok (.invokevirtual idx, 3)) (hp : pc + 3 = pc') (hq : Cond.methodLink own idx yX11_isPerson ∈ zW) (hm : 1 + 1 ≤ fr ∧ 8 + (2 + 11) + 22 ≤ lo) (hr : (rest.map fun v => v.category).sum ≤ 8) (hf : zbd (f_M_isPerson p1 σ) kf = some o2) (K : ∀ (r : Int32) (σ' : zS), kf r σ' = some o2 → V l d F 0 0 (MW d h σ') lv pc' (.int r :: rest)) : V l d F 0 0 (MW d h σ) lv pc (.int p1 :: .ref (h 0) :: rest) := by
  obtain ⟨q, h1, h2⟩ := zbd_some hf
  exact zr_callV y_M_isPerson ⟨q_1400, q_67⟩ 0 rfl rfl (As := [.int p1]) (m_M_isPerson h1) rfl rfl pc' C hd hp hq hm hr (K _ _ h2)
/-! StepsBeyondModel.moves(II)I -/
def f_M_moves (p1 : Int32) (p2 : Int32) (σ : zS) : Option (Int32 × zS) :=
  zbd (f_M_isPerson p1 σ) fun r2 σ1 =>
  (if r2 = 0 then
  some (-1, σ1)
  else
  zbd (f_M_isPlace p2 σ1) fun r4 σ3 =>
  (if r4 = 0 then
  some (-2, σ3)
  else
  zin p1 8 (zlt (σ3.2 11 p1.toNatClampNeg) fun v5 => 
  zin p1 8 (zlt (zsa σ3 11 p1 p2) fun σ6 =>
  some (v5, σ6)))))
set_option maxRecDepth 4000 in
theorem m_M_moves {l : Launch} {d : zD} {h : Nat → Nat} {out : Int32 × zS} {σ : zS} {p1 : Int32} {p2 : Int32} (hf : f_M_moves p1 p2 σ = some out) : zM l yX11_moves cX11_moves 4 (some .int) 2 43 d [.ref (h 0), .int p1, .int p2] (MW d h σ) (MW d h out.2) (some (.int out.1)) := by
  refine zM_of [some (.ref (h 0)), some (.int p1), some (.int p2), none] (by decide +kernel) rfl (Nat.le_of_ble_eq_true rfl) (fun F C T => ?_)
  unfold f_M_moves at hf
  refine zr_aload_n 0 1 C (by decide +kernel) rfl rfl ?_
  refine zr_iload_n 1 2 C (by decide +kernel) rfl rfl ?_
  refine k_M_isPerson (idx := 331) 5 C (by decide +kernel) rfl q_1398 (zb2 rfl rfl) (Nat.le_of_ble_eq_true rfl) hf (fun r2 σ1 hf => ?_)
  refine zr_if_ne (off := 5) 10 8 C (by decide +kernel) (by decide) rfl hf (fun hf => ?_) (fun hf => ?_)
  · refine zr_iload_n 2 11 C (by decide +kernel) rfl rfl ?_
    refine k_M_isPlace (idx := 150) 14 C (by decide +kernel) rfl q_1178 (zb2 rfl rfl) (Nat.le_of_ble_eq_true rfl) hf (fun r4 σ3 hf => ?_)
    refine zr_if_ne (off := 6) 20 17 C (by decide +kernel) (by decide) rfl hf (fun hf => ?_) (fun hf => ?_)
    · refine zr_aload_n 0 21 C (by decide +kernel) rfl rfl ?_
      refine mg_0_15 (idx := 40) 24 C (by decide +kernel) rfl q_1006 ?_
      refine zr_iload_n 1 25 C (by decide +kernel) rfl rfl ?_
      refine ml_11 26 C (by decide +kernel) rfl hf (fun hf => ?_)
      refine zr_name hf (fun v5 hf => ?_)
      refine zr_istore_n 3 [some (.ref (h 0)), some (.int p1), some (.int p2), some (.int v5)] 27 C (by decide +kernel) rfl (by decide) rfl rfl ?_
      refine zr_aload_n 0 28 C (by decide +kernel) rfl rfl ?_
      refine mg_0_15 (idx := 40) 31 C (by decide +kernel) rfl q_1006 ?_
      refine zr_iload_n 1 32 C (by decide +kernel) rfl rfl ?_
      refine zr_iload_n 2 33 C (by decide +kernel) rfl rfl ?_
      refine ms_11 34 C (by decide +kernel) rfl hf (fun σ6 hf => ?_)
      refine zr_iload_n 3 35 C (by decide +kernel) rfl rfl ?_
      obtain rfl := Option.some.inj hf
      exact zr_iret C (by decide +kernel) T
    · refine zr_bipush (v := (-2)) (-2) 19 C (by decide +kernel) rfl rfl ?_
      obtain rfl := Option.some.inj hf
      exact zr_iret C (by decide +kernel) T
  · refine zr_iconst (v := (-1)) (-1) 9 C (by decide +kernel) rfl rfl ?_
    obtain rfl := Option.some.inj hf
    exact zr_iret C (by decide +kernel) T
theorem y_M_moves : zY yX11_moves cX11_moves 4 (some .int) 2 := ⟨q_1397, q_90, by decide +kernel, by decide +kernel, by decide +kernel⟩
theorem k_M_moves {l : Launch} {d : zD} {F : zF} {h : Nat → Nat} {σ : zS} {lv : List (Option Value)} {pc : Nat} {own : String} {cc : ByteArray} {nL fr lo idx : Nat} {rest : List Value} {β : Type} {kf : Int32 → zS → Option β} {o2 : β} {p1 : Int32} {p2 : Int32} (pc' : Nat) (C : zOk d F own cc nL fr lo) (hd : decode cc pc = .ok (.invokevirtual idx, 3)) (hp : pc + 3 = pc') (hq : Cond.methodLink own idx yX11_moves ∈ zW) (hm : 2 + 1 ≤ fr ∧ 8 + (4 + 11) + 43 ≤ lo) (hr : (rest.map fun v => v.category).sum ≤ 8) (hf : zbd (f_M_moves p1 p2 σ) kf = some o2) (K : ∀ (r : Int32) (σ' : zS), kf r σ' = some o2 → V l d F 0 0 (MW d h σ') lv pc' (.int r :: rest)) : V l d F 0 0 (MW d h σ) lv pc (.int p2 :: .int p1 :: .ref (h 0) :: rest) := by
  obtain ⟨q, h1, h2⟩ := zbd_some hf
  exact zr_callV y_M_moves ⟨q_1395, q_1396⟩ 0 rfl rfl (As := [.int p1, .int p2]) (m_M_moves h1) rfl rfl pc' C hd hp hq hm hr (K _ _ h2)
/-! StepsBeyondModel.isOut(I)Z -/
def f_M_isOut (p1 : Int32) (σ : zS) : Option (Int32 × zS) :=
  zin p1 8 (zbd (f_M_looks (σ.2 12 p1.toNatClampNeg) σ) fun _ σ1 =>
  zin p1 8 (zin p1 8 (zbd (f_M_isIn (σ1.2 12 p1.toNatClampNeg) (σ1.2 11 p1.toNatClampNeg) σ1) fun r3 σ2 =>
  (if r3 = 0 then
  some (1, σ2)
  else
  some (0, σ2)))))
set_option maxRecDepth 4000 in
theorem m_M_isOut {l : Launch} {d : zD} {h : Nat → Nat} {out : Int32 × zS} {σ : zS} {p1 : Int32} (hf : f_M_isOut p1 σ = some out) : zM l yX11_isOut cX11_isOut 2 (some .boolean) 7 162 d [.ref (h 0), .int p1] (MW d h σ) (MW d h out.2) (some (.int out.1)) := by
  refine zM_of [some (.ref (h 0)), some (.int p1)] (by decide +kernel) rfl (Nat.le_of_ble_eq_true rfl) (fun F C T => ?_)
  unfold f_M_isOut at hf
  refine zr_aload_n 0 1 C (by decide +kernel) rfl rfl ?_
  refine zr_aload_n 0 2 C (by decide +kernel) rfl rfl ?_
  refine mg_0_16 (idx := 43) 5 C (by decide +kernel) rfl q_1007 ?_
  refine zr_iload_n 1 6 C (by decide +kernel) rfl rfl ?_
  refine ml_12 7 C (by decide +kernel) rfl hf (fun hf => ?_)
  refine k_M_looks (idx := 299) 10 C (by decide +kernel) rfl q_1329 (zb2 rfl rfl) (Nat.le_of_ble_eq_true rfl) hf (fun _ σ1 hf => ?_)
  refine zr_aload_n 0 11 C (by decide +kernel) rfl rfl ?_
  refine zr_aload_n 0 12 C (by decide +kernel) rfl rfl ?_
  refine mg_0_16 (idx := 43) 15 C (by decide +kernel) rfl q_1007 ?_
  refine zr_iload_n 1 16 C (by decide +kernel) rfl rfl ?_
  refine ml_12 17 C (by decide +kernel) rfl hf (fun hf => ?_)
  refine zr_aload_n 0 18 C (by decide +kernel) rfl rfl ?_
  refine mg_0_15 (idx := 40) 21 C (by decide +kernel) rfl q_1006 ?_
  refine zr_iload_n 1 22 C (by decide +kernel) rfl rfl ?_
  refine ml_11 23 C (by decide +kernel) rfl hf (fun hf => ?_)
  refine k_M_isIn (idx := 302) 26 C (by decide +kernel) rfl q_1337 (zb2 rfl rfl) (Nat.le_of_ble_eq_true rfl) hf (fun r3 σ2 hf => ?_)
  refine zr_if_ne (off := 7) 33 29 C (by decide +kernel) (by decide) rfl hf (fun hf => ?_) (fun hf => ?_)
  · refine zr_iconst (v := 0) 0 34 C (by decide +kernel) rfl rfl ?_
    obtain rfl := Option.some.inj hf
    exact zr_zret C (by decide +kernel) rfl T
  · refine zr_iconst (v := 1) 1 30 C (by decide +kernel) rfl rfl ?_
    refine zr_goto (off := 4) 34 C (by decide +kernel) (by decide) ?_
    obtain rfl := Option.some.inj hf
    exact zr_zret C (by decide +kernel) rfl T
theorem y_M_isOut : zY yX11_isOut cX11_isOut 2 (some .boolean) 1 := ⟨q_1409, q_90, by decide +kernel, by decide +kernel, by decide +kernel⟩
theorem k_M_isOut {l : Launch} {d : zD} {F : zF} {h : Nat → Nat} {σ : zS} {lv : List (Option Value)} {pc : Nat} {own : String} {cc : ByteArray} {nL fr lo idx : Nat} {rest : List Value} {β : Type} {kf : Int32 → zS → Option β} {o2 : β} {p1 : Int32} (pc' : Nat) (C : zOk d F own cc nL fr lo) (hd : decode cc pc = .ok (.invokevirtual idx, 3)) (hp : pc + 3 = pc') (hq : Cond.methodLink own idx yX11_isOut ∈ zW) (hm : 7 + 1 ≤ fr ∧ 8 + (2 + 11) + 162 ≤ lo) (hr : (rest.map fun v => v.category).sum ≤ 8) (hf : zbd (f_M_isOut p1 σ) kf = some o2) (K : ∀ (r : Int32) (σ' : zS), kf r σ' = some o2 → V l d F 0 0 (MW d h σ') lv pc' (.int r :: rest)) : V l d F 0 0 (MW d h σ) lv pc (.int p1 :: .ref (h 0) :: rest) := by
  obtain ⟨q, h1, h2⟩ := zbd_some hf
  exact zr_callV y_M_isOut ⟨q_1408, q_68⟩ 0 rfl rfl (As := [.int p1]) (m_M_isOut h1) rfl rfl pc' C hd hp hq hm hr (K _ _ h2)
/-! StepsBeyondModel.personTold(II)I -/
def f_M_personTold (p1 : Int32) (p2 : Int32) (σ : zS) : Option (Int32 × zS) :=
  zbd (f_M_isPerson p1 σ) fun r2 σ1 =>
  (if r2 = 0 then
  some (-5, σ1)
  else
  (if p2 = 0 then
  zin p1 8 (some (σ1.2 11 p1.toNatClampNeg, σ1))
  else
  (if p2 = 1 then
  zin p1 8 (some (σ1.2 12 p1.toNatClampNeg, σ1))
  else
  (if p2 = 2 then
  zbd (f_M_isOut p1 σ1) fun r4 σ3 =>
  (if r4 = 0 then
  some (0, σ3)
  else
  some (1, σ3))
  else
  some (-7, σ1)))))
set_option maxRecDepth 4000 in
theorem m_M_personTold {l : Launch} {d : zD} {h : Nat → Nat} {out : Int32 × zS} {σ : zS} {p1 : Int32} {p2 : Int32} (hf : f_M_personTold p1 p2 σ = some out) : zM l yX11_personTold cX11_personTold 3 (some .int) 8 183 d [.ref (h 0), .int p1, .int p2] (MW d h σ) (MW d h out.2) (some (.int out.1)) := by
  refine zM_of [some (.ref (h 0)), some (.int p1), some (.int p2)] (by decide +kernel) rfl (Nat.le_of_ble_eq_true rfl) (fun F C T => ?_)
  unfold f_M_personTold at hf
  refine zr_aload_n 0 1 C (by decide +kernel) rfl rfl ?_
  refine zr_iload_n 1 2 C (by decide +kernel) rfl rfl ?_
  refine k_M_isPerson (idx := 331) 5 C (by decide +kernel) rfl q_1398 (zb2 rfl rfl) (Nat.le_of_ble_eq_true rfl) hf (fun r2 σ1 hf => ?_)
  refine zr_if_ne (off := 6) 11 8 C (by decide +kernel) (by decide) rfl hf (fun hf => ?_) (fun hf => ?_)
  · refine zr_iload_n 2 12 C (by decide +kernel) rfl rfl ?_
    refine zr_if_ne (off := 12) 24 15 C (by decide +kernel) (by decide) rfl hf (fun hf => ?_) (fun hf => ?_)
    · refine zr_iload_n 2 25 C (by decide +kernel) rfl rfl ?_
      refine zr_iconst (v := 1) 1 26 C (by decide +kernel) rfl rfl ?_
      refine zr_icmp_ne (off := 12) 38 29 C (by decide +kernel) (by decide) rfl hf (fun hf => ?_) (fun hf => ?_)
      · refine zr_iload_n 2 39 C (by decide +kernel) rfl rfl ?_
        refine zr_iconst (v := 2) 2 40 C (by decide +kernel) rfl rfl ?_
        refine zr_icmp_ne (off := 19) 59 43 C (by decide +kernel) (by decide) rfl hf (fun hf => ?_) (fun hf => ?_)
        · refine zr_bipush (v := (-7)) (-7) 61 C (by decide +kernel) rfl rfl ?_
          obtain rfl := Option.some.inj hf
          exact zr_iret C (by decide +kernel) T
        · refine zr_aload_n 0 44 C (by decide +kernel) rfl rfl ?_
          refine zr_iload_n 1 45 C (by decide +kernel) rfl rfl ?_
          refine k_M_isOut (idx := 334) 48 C (by decide +kernel) rfl q_1406 (zb2 rfl rfl) (Nat.le_of_ble_eq_true rfl) hf (fun r4 σ3 hf => ?_)
          refine zr_if_eq (off := 7) 55 51 C (by decide +kernel) (by decide) rfl hf (fun hf => ?_) (fun hf => ?_)
          · refine zr_iconst (v := 0) 0 56 C (by decide +kernel) rfl rfl ?_
            refine zr_goto (off := 5) 61 C (by decide +kernel) (by decide) ?_
            obtain rfl := Option.some.inj hf
            exact zr_iret C (by decide +kernel) T
          · refine zr_iconst (v := 1) 1 52 C (by decide +kernel) rfl rfl ?_
            refine zr_goto (off := 9) 61 C (by decide +kernel) (by decide) ?_
            obtain rfl := Option.some.inj hf
            exact zr_iret C (by decide +kernel) T
      · refine zr_aload_n 0 30 C (by decide +kernel) rfl rfl ?_
        refine mg_0_16 (idx := 43) 33 C (by decide +kernel) rfl q_1007 ?_
        refine zr_iload_n 1 34 C (by decide +kernel) rfl rfl ?_
        refine ml_12 35 C (by decide +kernel) rfl hf (fun hf => ?_)
        refine zr_goto (off := 26) 61 C (by decide +kernel) (by decide) ?_
        obtain rfl := Option.some.inj hf
        exact zr_iret C (by decide +kernel) T
    · refine zr_aload_n 0 16 C (by decide +kernel) rfl rfl ?_
      refine mg_0_15 (idx := 40) 19 C (by decide +kernel) rfl q_1006 ?_
      refine zr_iload_n 1 20 C (by decide +kernel) rfl rfl ?_
      refine ml_11 21 C (by decide +kernel) rfl hf (fun hf => ?_)
      refine zr_goto (off := 40) 61 C (by decide +kernel) (by decide) ?_
      obtain rfl := Option.some.inj hf
      exact zr_iret C (by decide +kernel) T
  · refine zr_bipush (v := (-5)) (-5) 10 C (by decide +kernel) rfl rfl ?_
    obtain rfl := Option.some.inj hf
    exact zr_iret C (by decide +kernel) T
theorem y_M_personTold : zY yX11_personTold cX11_personTold 3 (some .int) 2 := ⟨q_1405, q_90, by decide +kernel, by decide +kernel, by decide +kernel⟩
theorem k_M_personTold {l : Launch} {d : zD} {F : zF} {h : Nat → Nat} {σ : zS} {lv : List (Option Value)} {pc : Nat} {own : String} {cc : ByteArray} {nL fr lo idx : Nat} {rest : List Value} {β : Type} {kf : Int32 → zS → Option β} {o2 : β} {p1 : Int32} {p2 : Int32} (pc' : Nat) (C : zOk d F own cc nL fr lo) (hd : decode cc pc = .ok (.invokevirtual idx, 3)) (hp : pc + 3 = pc') (hq : Cond.methodLink own idx yX11_personTold ∈ zW) (hm : 8 + 1 ≤ fr ∧ 8 + (3 + 11) + 183 ≤ lo) (hr : (rest.map fun v => v.category).sum ≤ 8) (hf : zbd (f_M_personTold p1 p2 σ) kf = some o2) (K : ∀ (r : Int32) (σ' : zS), kf r σ' = some o2 → V l d F 0 0 (MW d h σ') lv pc' (.int r :: rest)) : V l d F 0 0 (MW d h σ) lv pc (.int p2 :: .int p1 :: .ref (h 0) :: rest) := by
  obtain ⟨q, h1, h2⟩ := zbd_some hf
  exact zr_callV y_M_personTold ⟨q_1403, q_1404⟩ 0 rfl rfl (As := [.int p1, .int p2]) (m_M_personTold h1) rfl rfl pc' C hd hp hq hm hr (K _ _ h2)
/-! StepsBeyondModel.well(I)I -/
def f_M_well (p1 : Int32) (σ : zS) : Option (Int32 × zS) :=
  zbd (f_M_isPlace p1 σ) fun r2 σ1 =>
  (if r2 = 0 then
  some (-2, σ1)
  else
  (if (σ1.1 17) = 10 then
  some (-4, σ1)
  else
  zin (σ1.1 17) 10 (zlt (zsa σ1 13 (σ1.1 17) p1) fun σ3 =>
  zlt (zsg σ3 17 ((σ3.1 17) + 1)) fun σ4 =>
  some ((σ4.1 17) - 1, σ4))))
set_option maxRecDepth 4000 in
theorem m_M_well {l : Launch} {d : zD} {h : Nat → Nat} {out : Int32 × zS} {σ : zS} {p1 : Int32} (hf : f_M_well p1 σ = some out) : zM l yX11_well cX11_well 2 (some .int) 2 42 d [.ref (h 0), .int p1] (MW d h σ) (MW d h out.2) (some (.int out.1)) := by
  refine zM_of [some (.ref (h 0)), some (.int p1)] (by decide +kernel) rfl (Nat.le_of_ble_eq_true rfl) (fun F C T => ?_)
  unfold f_M_well at hf
  refine zr_iload_n 1 1 C (by decide +kernel) rfl rfl ?_
  refine k_M_isPlace (idx := 150) 4 C (by decide +kernel) rfl q_1178 (zb2 rfl rfl) (Nat.le_of_ble_eq_true rfl) hf (fun r2 σ1 hf => ?_)
  refine zr_if_ne (off := 6) 10 7 C (by decide +kernel) (by decide) rfl hf (fun hf => ?_) (fun hf => ?_)
  · refine zr_aload_n 0 11 C (by decide +kernel) rfl rfl ?_
    refine mg_0_17 (idx := 337) 14 C (by decide +kernel) rfl q_1008 ?_
    refine zr_bipush (v := 10) 10 16 C (by decide +kernel) rfl rfl ?_
    refine zr_icmp_ne (off := 6) 22 19 C (by decide +kernel) (by decide) rfl hf (fun hf => ?_) (fun hf => ?_)
    · refine zr_aload_n 0 23 C (by decide +kernel) rfl rfl ?_
      refine mg_0_18 (idx := 46) 26 C (by decide +kernel) rfl q_1009 ?_
      refine zr_aload_n 0 27 C (by decide +kernel) rfl rfl ?_
      refine mg_0_17 (idx := 337) 30 C (by decide +kernel) rfl q_1008 ?_
      refine zr_iload_n 1 31 C (by decide +kernel) rfl rfl ?_
      refine ms_13 32 C (by decide +kernel) rfl hf (fun σ3 hf => ?_)
      refine zr_aload_n 0 33 C (by decide +kernel) rfl rfl ?_
      refine zr_dup 34 C (by decide +kernel) rfl rfl ?_
      refine mg_0_17 (idx := 337) 37 C (by decide +kernel) rfl q_1008 ?_
      refine zr_iconst (v := 1) 1 38 C (by decide +kernel) rfl rfl ?_
      refine zr_iadd 39 C (by decide +kernel) rfl ?_
      refine mp_0_17 (idx := 337) 42 C (by decide +kernel) rfl q_1008 hf (fun σ4 hf => ?_)
      refine zr_aload_n 0 43 C (by decide +kernel) rfl rfl ?_
      refine mg_0_17 (idx := 337) 46 C (by decide +kernel) rfl q_1008 ?_
      refine zr_iconst (v := 1) 1 47 C (by decide +kernel) rfl rfl ?_
      refine zr_isub 48 C (by decide +kernel) rfl ?_
      obtain rfl := Option.some.inj hf
      exact zr_iret C (by decide +kernel) T
    · refine zr_bipush (v := (-4)) (-4) 21 C (by decide +kernel) rfl rfl ?_
      obtain rfl := Option.some.inj hf
      exact zr_iret C (by decide +kernel) T
  · refine zr_bipush (v := (-2)) (-2) 9 C (by decide +kernel) rfl rfl ?_
    obtain rfl := Option.some.inj hf
    exact zr_iret C (by decide +kernel) T
theorem y_M_well : zY yX11_well cX11_well 2 (some .int) 1 := ⟨q_1413, q_90, by decide +kernel, by decide +kernel, by decide +kernel⟩
theorem k_M_well {l : Launch} {d : zD} {F : zF} {h : Nat → Nat} {σ : zS} {lv : List (Option Value)} {pc : Nat} {own : String} {cc : ByteArray} {nL fr lo idx : Nat} {rest : List Value} {β : Type} {kf : Int32 → zS → Option β} {o2 : β} {p1 : Int32} (pc' : Nat) (C : zOk d F own cc nL fr lo) (hd : decode cc pc = .ok (.invokevirtual idx, 3)) (hp : pc + 3 = pc') (hq : Cond.methodLink own idx yX11_well ∈ zW) (hm : 2 + 1 ≤ fr ∧ 8 + (2 + 11) + 42 ≤ lo) (hr : (rest.map fun v => v.category).sum ≤ 8) (hf : zbd (f_M_well p1 σ) kf = some o2) (K : ∀ (r : Int32) (σ' : zS), kf r σ' = some o2 → V l d F 0 0 (MW d h σ') lv pc' (.int r :: rest)) : V l d F 0 0 (MW d h σ) lv pc (.int p1 :: .ref (h 0) :: rest) := by
  obtain ⟨q, h1, h2⟩ := zbd_some hf
  exact zr_callV y_M_well ⟨q_1411, q_1412⟩ 0 rfl rfl (As := [.int p1]) (m_M_well h1) rfl rfl pc' C hd hp hq hm hr (K _ _ h2)
/-! StepsBeyondModel.why(III)I -/
def f_M_why (p1 : Int32) (p2 : Int32) (p3 : Int32) (σ : zS) : Option (Int32 × zS) :=
  zbd (f_M_isOut p1 σ) fun r2 σ1 =>
  (if r2 = 0 then
  zin p1 8 (zbd (f_M_isIn (σ1.2 12 p1.toNatClampNeg) p2 σ1) fun r4 σ3 =>
  (if r4 = 0 then
  some (2, σ3)
  else
  zin p2 1600 ((if (σ3.2 28 p2.toNatClampNeg) ≤ p3 then
  some (0, σ3)
  else
  some (3, σ3)))))
  else
  zin p1 8 (zbd (f_M_apart (σ1.2 11 p1.toNatClampNeg) p2 σ1) fun r6 σ5 =>
  (if 2 < r6 then
  some (1, σ5)
  else
  some (0, σ5))))
set_option maxRecDepth 4000 in
theorem m_M_why {l : Launch} {d : zD} {h : Nat → Nat} {out : Int32 × zS} {σ : zS} {p1 : Int32} {p2 : Int32} {p3 : Int32} (hf : f_M_why p1 p2 p3 σ = some out) : zM l yX11_why cX11_why 4 (some .int) 8 183 d [.ref (h 0), .int p1, .int p2, .int p3] (MW d h σ) (MW d h out.2) (some (.int out.1)) := by
  refine zM_of [some (.ref (h 0)), some (.int p1), some (.int p2), some (.int p3)] (by decide +kernel) rfl (Nat.le_of_ble_eq_true rfl) (fun F C T => ?_)
  unfold f_M_why at hf
  refine zr_aload_n 0 1 C (by decide +kernel) rfl rfl ?_
  refine zr_iload_n 1 2 C (by decide +kernel) rfl rfl ?_
  refine k_M_isOut (idx := 334) 5 C (by decide +kernel) rfl q_1406 (zb2 rfl rfl) (Nat.le_of_ble_eq_true rfl) hf (fun r2 σ1 hf => ?_)
  refine zr_if_eq (off := 23) 28 8 C (by decide +kernel) (by decide) rfl hf (fun hf => ?_) (fun hf => ?_)
  · refine zr_aload_n 0 29 C (by decide +kernel) rfl rfl ?_
    refine zr_aload_n 0 30 C (by decide +kernel) rfl rfl ?_
    refine mg_0_16 (idx := 43) 33 C (by decide +kernel) rfl q_1007 ?_
    refine zr_iload_n 1 34 C (by decide +kernel) rfl rfl ?_
    refine ml_12 35 C (by decide +kernel) rfl hf (fun hf => ?_)
    refine zr_iload_n 2 36 C (by decide +kernel) rfl rfl ?_
    refine k_M_isIn (idx := 302) 39 C (by decide +kernel) rfl q_1337 (zb2 rfl rfl) (Nat.le_of_ble_eq_true rfl) hf (fun r4 σ3 hf => ?_)
    refine zr_if_ne (off := 7) 46 42 C (by decide +kernel) (by decide) rfl hf (fun hf => ?_) (fun hf => ?_)
    · refine zr_aload_n 0 47 C (by decide +kernel) rfl rfl ?_
      refine mg_0_54 (idx := 119) 50 C (by decide +kernel) rfl q_1045 ?_
      refine zr_iload_n 2 51 C (by decide +kernel) rfl rfl ?_
      refine ml_28 52 C (by decide +kernel) rfl hf (fun hf => ?_)
      refine zr_iload_n 3 53 C (by decide +kernel) rfl rfl ?_
      refine zr_icmp_le (off := 7) 60 56 C (by decide +kernel) (by decide) rfl hf (fun hf => ?_) (fun hf => ?_)
      · refine zr_iconst (v := 0) 0 61 C (by decide +kernel) rfl rfl ?_
        obtain rfl := Option.some.inj hf
        exact zr_iret C (by decide +kernel) T
      · refine zr_iconst (v := 3) 3 57 C (by decide +kernel) rfl rfl ?_
        refine zr_goto (off := 4) 61 C (by decide +kernel) (by decide) ?_
        obtain rfl := Option.some.inj hf
        exact zr_iret C (by decide +kernel) T
    · refine zr_iconst (v := 2) 2 43 C (by decide +kernel) rfl rfl ?_
      refine zr_goto (off := 18) 61 C (by decide +kernel) (by decide) ?_
      obtain rfl := Option.some.inj hf
      exact zr_iret C (by decide +kernel) T
  · refine zr_aload_n 0 9 C (by decide +kernel) rfl rfl ?_
    refine mg_0_15 (idx := 40) 12 C (by decide +kernel) rfl q_1006 ?_
    refine zr_iload_n 1 13 C (by decide +kernel) rfl rfl ?_
    refine ml_11 14 C (by decide +kernel) rfl hf (fun hf => ?_)
    refine zr_iload_n 2 15 C (by decide +kernel) rfl rfl ?_
    refine k_M_apart (idx := 225) 18 C (by decide +kernel) rfl q_1257 (zb2 rfl rfl) (Nat.le_of_ble_eq_true rfl) hf (fun r6 σ5 hf => ?_)
    refine zr_iconst (v := 2) 2 19 C (by decide +kernel) rfl rfl ?_
    refine zr_icmp_gt (off := 7) 26 22 C (by decide +kernel) (by decide) rfl hf (fun hf => ?_) (fun hf => ?_)
    · refine zr_iconst (v := 1) 1 27 C (by decide +kernel) rfl rfl ?_
      obtain rfl := Option.some.inj hf
      exact zr_iret C (by decide +kernel) T
    · refine zr_iconst (v := 0) 0 23 C (by decide +kernel) rfl rfl ?_
      refine zr_goto (off := 4) 27 C (by decide +kernel) (by decide) ?_
      obtain rfl := Option.some.inj hf
      exact zr_iret C (by decide +kernel) T
theorem y_M_why : zY yX11_why cX11_why 4 (some .int) 3 := ⟨q_1421, q_90, by decide +kernel, by decide +kernel, by decide +kernel⟩
theorem k_M_why {l : Launch} {d : zD} {F : zF} {h : Nat → Nat} {σ : zS} {lv : List (Option Value)} {pc : Nat} {own : String} {cc : ByteArray} {nL fr lo idx : Nat} {rest : List Value} {β : Type} {kf : Int32 → zS → Option β} {o2 : β} {p1 : Int32} {p2 : Int32} {p3 : Int32} (pc' : Nat) (C : zOk d F own cc nL fr lo) (hd : decode cc pc = .ok (.invokevirtual idx, 3)) (hp : pc + 3 = pc') (hq : Cond.methodLink own idx yX11_why ∈ zW) (hm : 8 + 1 ≤ fr ∧ 8 + (4 + 11) + 183 ≤ lo) (hr : (rest.map fun v => v.category).sum ≤ 8) (hf : zbd (f_M_why p1 p2 p3 σ) kf = some o2) (K : ∀ (r : Int32) (σ' : zS), kf r σ' = some o2 → V l d F 0 0 (MW d h σ') lv pc' (.int r :: rest)) : V l d F 0 0 (MW d h σ) lv pc (.int p3 :: .int p2 :: .int p1 :: .ref (h 0) :: rest) := by
  obtain ⟨q, h1, h2⟩ := zbd_some hf
  exact zr_callV y_M_why ⟨q_1420, q_69⟩ 0 rfl rfl (As := [.int p1, .int p2, .int p3]) (m_M_why h1) rfl rfl pc' C hd hp hq hm hr (K _ _ h2)
/-! StepsBeyondModel.may(III)I -/
def f_M_may (p1 : Int32) (p2 : Int32) (p3 : Int32) (σ : zS) : Option (Int32 × zS) :=
  zbd (f_M_isPerson p1 σ) fun r2 σ1 =>
  (if r2 = 0 then
  some (-5, σ1)
  else
  zbd (f_M_isPlace p2 σ1) fun r4 σ3 =>
  (if r4 = 0 then
  some (-7, σ3)
  else
  zbd (f_M_in p3 0 9999 σ3) fun r6 σ5 =>
  (if r6 = 0 then
  some (-7, σ5)
  else
  zin p1 8 (zbd (f_M_spreads (σ5.2 11 p1.toNatClampNeg) σ5) fun _ σ7 =>
  zbd (f_M_why p1 p2 p3 σ7) fun r9 σ8 =>
  some (r9, σ8)))))
set_option maxRecDepth 4000 in
theorem m_M_may {l : Launch} {d : zD} {h : Nat → Nat} {out : Int32 × zS} {σ : zS} {p1 : Int32} {p2 : Int32} {p3 : Int32} (hf : f_M_may p1 p2 p3 σ = some out) : zM l yX11_may cX11_may 4 (some .int) 9 206 d [.ref (h 0), .int p1, .int p2, .int p3] (MW d h σ) (MW d h out.2) (some (.int out.1)) := by
  refine zM_of [some (.ref (h 0)), some (.int p1), some (.int p2), some (.int p3)] (by decide +kernel) rfl (Nat.le_of_ble_eq_true rfl) (fun F C T => ?_)
  unfold f_M_may at hf
  refine zr_aload_n 0 1 C (by decide +kernel) rfl rfl ?_
  refine zr_iload_n 1 2 C (by decide +kernel) rfl rfl ?_
  refine k_M_isPerson (idx := 331) 5 C (by decide +kernel) rfl q_1398 (zb2 rfl rfl) (Nat.le_of_ble_eq_true rfl) hf (fun r2 σ1 hf => ?_)
  refine zr_if_ne (off := 6) 11 8 C (by decide +kernel) (by decide) rfl hf (fun hf => ?_) (fun hf => ?_)
  · refine zr_iload_n 2 12 C (by decide +kernel) rfl rfl ?_
    refine k_M_isPlace (idx := 150) 15 C (by decide +kernel) rfl q_1178 (zb2 rfl rfl) (Nat.le_of_ble_eq_true rfl) hf (fun r4 σ3 hf => ?_)
    refine zr_if_eq (off := 14) 29 18 C (by decide +kernel) (by decide) rfl hf (fun hf => ?_) (fun hf => ?_)
    · refine zr_bipush (v := (-7)) (-7) 31 C (by decide +kernel) rfl rfl ?_
      obtain rfl := Option.some.inj hf
      exact zr_iret C (by decide +kernel) T
    · refine zr_iload_n 3 19 C (by decide +kernel) rfl rfl ?_
      refine zr_iconst (v := 0) 0 20 C (by decide +kernel) rfl rfl ?_
      refine zr_sipush (v := 9999) 9999 23 C (by decide +kernel) rfl rfl ?_
      refine k_M_in (idx := 139) 26 C (by decide +kernel) rfl q_1181 (zb2 rfl rfl) (Nat.le_of_ble_eq_true rfl) hf (fun r6 σ5 hf => ?_)
      refine zr_if_ne (off := 6) 32 29 C (by decide +kernel) (by decide) rfl hf (fun hf => ?_) (fun hf => ?_)
      · refine zr_aload_n 0 33 C (by decide +kernel) rfl rfl ?_
        refine zr_aload_n 0 34 C (by decide +kernel) rfl rfl ?_
        refine mg_0_15 (idx := 40) 37 C (by decide +kernel) rfl q_1006 ?_
        refine zr_iload_n 1 38 C (by decide +kernel) rfl rfl ?_
        refine ml_11 39 C (by decide +kernel) rfl hf (fun hf => ?_)
        refine k_M_spreads (idx := 325) 42 C (by decide +kernel) rfl q_1377 (zb2 rfl rfl) (Nat.le_of_ble_eq_true rfl) hf (fun _ σ7 hf => ?_)
        refine zr_aload_n 0 43 C (by decide +kernel) rfl rfl ?_
        refine zr_iload_n 1 44 C (by decide +kernel) rfl rfl ?_
        refine zr_iload_n 2 45 C (by decide +kernel) rfl rfl ?_
        refine zr_iload_n 3 46 C (by decide +kernel) rfl rfl ?_
        refine k_M_why (idx := 340) 49 C (by decide +kernel) rfl q_1418 (zb2 rfl rfl) (Nat.le_of_ble_eq_true rfl) hf (fun r9 σ8 hf => ?_)
        obtain rfl := Option.some.inj hf
        exact zr_iret C (by decide +kernel) T
      · refine zr_bipush (v := (-7)) (-7) 31 C (by decide +kernel) rfl rfl ?_
        obtain rfl := Option.some.inj hf
        exact zr_iret C (by decide +kernel) T
  · refine zr_bipush (v := (-5)) (-5) 10 C (by decide +kernel) rfl rfl ?_
    obtain rfl := Option.some.inj hf
    exact zr_iret C (by decide +kernel) T
theorem y_M_may : zY yX11_may cX11_may 4 (some .int) 3 := ⟨q_1417, q_90, by decide +kernel, by decide +kernel, by decide +kernel⟩
theorem k_M_may {l : Launch} {d : zD} {F : zF} {h : Nat → Nat} {σ : zS} {lv : List (Option Value)} {pc : Nat} {own : String} {cc : ByteArray} {nL fr lo idx : Nat} {rest : List Value} {β : Type} {kf : Int32 → zS → Option β} {o2 : β} {p1 : Int32} {p2 : Int32} {p3 : Int32} (pc' : Nat) (C : zOk d F own cc nL fr lo) (hd : decode cc pc = .ok (.invokevirtual idx, 3)) (hp : pc + 3 = pc') (hq : Cond.methodLink own idx yX11_may ∈ zW) (hm : 9 + 1 ≤ fr ∧ 8 + (4 + 11) + 206 ≤ lo) (hr : (rest.map fun v => v.category).sum ≤ 8) (hf : zbd (f_M_may p1 p2 p3 σ) kf = some o2) (K : ∀ (r : Int32) (σ' : zS), kf r σ' = some o2 → V l d F 0 0 (MW d h σ') lv pc' (.int r :: rest)) : V l d F 0 0 (MW d h σ) lv pc (.int p3 :: .int p2 :: .int p1 :: .ref (h 0) :: rest) := by
  obtain ⟨q, h1, h2⟩ := zbd_some hf
  exact zr_callV y_M_may ⟨q_1415, q_1416⟩ 0 rfl rfl (As := [.int p1, .int p2, .int p3]) (m_M_may h1) rfl rfl pc' C hd hp hq hm hr (K _ _ h2)
/-! StepsBeyondModel.wells(II)I -/
def f_M_wells_74 (k40 : Int32 → Int32 → Int32 → Int32 → zS → Option (Int32 × zS)) (x1 : Int32) (x2 : Int32) (x4 : Int32) (y0 : Int32) (y1 : Int32) (σ : zS) : Option (Int32 × zS) :=
  zlt (y0 ||| y1) fun v1 => 
  k40 x1 x2 v1 (x4 + 1) σ
set_option maxRecDepth 4000 in
theorem w_M_wells_74 {l : Launch} {d : zD} {F : zF} {h : Nat → Nat} {out : Int32 × zS} {k40 : Int32 → Int32 → Int32 → Int32 → zS → Option (Int32 × zS)} (C : zOk d F RX11 cX11_wells 5 9 206) (T : zRt d F (some .int) (some (.int out.1)) (MW d h out.2)) (H40 : ∀ (x1 : Int32) (x2 : Int32) (x3 : Int32) (x4 : Int32) (σ : zS), k40 x1 x2 x3 x4 σ = some out → V l d F 0 0 (MW d h σ) [some (.ref (h 0)), some (.int x1), some (.int x2), some (.int x3), some (.int x4)] 40 []) (x1 : Int32) (x2 : Int32) (x4 : Int32) (y0 : Int32) (y1 : Int32) (σ : zS) (hf : f_M_wells_74 k40 x1 x2 x4 y0 y1 σ = some out) : V l d F 0 0 (MW d h σ) [some (.ref (h 0)), some (.int x1), some (.int x2), none, some (.int x4)] 74 [.int y1, .int y0] := by
  unfold f_M_wells_74 at hf
  refine zr_ior 75 C (by decide +kernel) rfl ?_
  refine zr_name hf (fun v1 hf => ?_)
  refine zr_istore_n 3 [some (.ref (h 0)), some (.int x1), some (.int x2), some (.int v1), some (.int x4)] 76 C (by decide +kernel) rfl (by decide) rfl rfl ?_
  refine zr_iinc (j := 1) 4 [some (.ref (h 0)), some (.int x1), some (.int x2), some (.int v1), some (.int (x4 + 1))] 79 C (by decide +kernel) rfl rfl rfl (by decide) rfl rfl ?_
  refine zr_goto (off := -39) 40 C (by decide +kernel) (by decide) ?_
  exact H40 _ _ _ _ _ hf
def f_M_wells_40b (k40 : Int32 → Int32 → Int32 → Int32 → zS → Option (Int32 × zS)) (x1 : Int32) (x2 : Int32) (x3 : Int32) (x4 : Int32) (σ : zS) : Option (Int32 × zS) :=
  (if (σ.1 17) ≤ x4 then
  some (x3, σ)
  else
  zin x4 10 (zbd (f_M_why x1 (σ.2 13 x4.toNatClampNeg) x2 σ) fun r2 σ1 =>
  (if r2 = 0 then
  f_M_wells_74 k40 x1 x2 x4 x3 (zshl 1 x4) σ1
  else
  f_M_wells_74 k40 x1 x2 x4 x3 0 σ1)))
set_option maxRecDepth 4000 in
theorem w_M_wells_40b {l : Launch} {d : zD} {F : zF} {h : Nat → Nat} {out : Int32 × zS} {k40 : Int32 → Int32 → Int32 → Int32 → zS → Option (Int32 × zS)} (C : zOk d F RX11 cX11_wells 5 9 206) (T : zRt d F (some .int) (some (.int out.1)) (MW d h out.2)) (H40 : ∀ (x1 : Int32) (x2 : Int32) (x3 : Int32) (x4 : Int32) (σ : zS), k40 x1 x2 x3 x4 σ = some out → V l d F 0 0 (MW d h σ) [some (.ref (h 0)), some (.int x1), some (.int x2), some (.int x3), some (.int x4)] 40 []) (x1 : Int32) (x2 : Int32) (x3 : Int32) (x4 : Int32) (σ : zS) (hf : f_M_wells_40b k40 x1 x2 x3 x4 σ = some out) : V l d F 0 0 (MW d h σ) [some (.ref (h 0)), some (.int x1), some (.int x2), some (.int x3), some (.int x4)] 40 [] := by
  unfold f_M_wells_40b at hf
  refine zr_iload 4 42 C (by decide +kernel) rfl rfl ?_
  refine zr_aload_n 0 43 C (by decide +kernel) rfl rfl ?_
  refine mg_0_17 (idx := 337) 46 C (by decide +kernel) rfl q_1008 ?_
  refine zr_icmp_ge (off := 36) 82 49 C (by decide +kernel) (by decide) rfl hf (fun hf => ?_) (fun hf => ?_)
  · refine zr_iload_n 3 83 C (by decide +kernel) rfl rfl ?_
    obtain rfl := Option.some.inj hf
    exact zr_iret C (by decide +kernel) T
  · refine zr_iload_n 3 50 C (by decide +kernel) rfl rfl ?_
    refine zr_aload_n 0 51 C (by decide +kernel) rfl rfl ?_
    refine zr_iload_n 1 52 C (by decide +kernel) rfl rfl ?_
    refine zr_aload_n 0 53 C (by decide +kernel) rfl rfl ?_
    refine mg_0_18 (idx := 46) 56 C (by decide +kernel) rfl q_1009 ?_
    refine zr_iload 4 58 C (by decide +kernel) rfl rfl ?_
    refine ml_13 59 C (by decide +kernel) rfl hf (fun hf => ?_)
    refine zr_iload_n 2 60 C (by decide +kernel) rfl rfl ?_
    refine k_M_why (idx := 340) 63 C (by decide +kernel) rfl q_1418 (zb2 rfl rfl) (Nat.le_of_ble_eq_true rfl) hf (fun r2 σ1 hf => ?_)
    refine zr_if_ne (off := 10) 73 66 C (by decide +kernel) (by decide) rfl hf (fun hf => ?_) (fun hf => ?_)
    · refine zr_iconst (v := 0) 0 74 C (by decide +kernel) rfl rfl ?_
      refine zr_less (zA (zA (zA (zN (zA zE))))) ?_
      exact w_M_wells_74 C T H40 _ _ _ _ _ _ hf
    · refine zr_iconst (v := 1) 1 67 C (by decide +kernel) rfl rfl ?_
      refine zr_iload 4 69 C (by decide +kernel) rfl rfl ?_
      refine zr_ishl 70 C (by decide +kernel) rfl ?_
      refine zr_goto (off := 4) 74 C (by decide +kernel) (by decide) ?_
      refine zr_less (zA (zA (zA (zN (zA zE))))) ?_
      exact w_M_wells_74 C T H40 _ _ _ _ _ _ hf
def f_M_wells_40  : Nat → Int32 → Int32 → Int32 → Int32 → zS → Option (Int32 × zS)
  | 0, _, _, _, _, _ => none
  | n + 1, x1, x2, x3, x4,  σ => f_M_wells_40b (fun x1 x2 x3 x4 σ => f_M_wells_40  n x1 x2 x3 x4 σ) x1 x2 x3 x4 σ
theorem w_M_wells_40 {l : Launch} {d : zD} {F : zF} {h : Nat → Nat} {out : Int32 × zS}  (C : zOk d F RX11 cX11_wells 5 9 206) (T : zRt d F (some .int) (some (.int out.1)) (MW d h out.2))  : ∀ (n : Nat) (x1 : Int32) (x2 : Int32) (x3 : Int32) (x4 : Int32) (σ : zS), f_M_wells_40  n x1 x2 x3 x4 σ = some out → V l d F 0 0 (MW d h σ) [some (.ref (h 0)), some (.int x1), some (.int x2), some (.int x3), some (.int x4)] 40 [] := by
  intro n
  induction n with
  | zero =>
    intro x1 x2 x3 x4 σ hf
    cases hf
  | succ n ih =>
    intro x1 x2 x3 x4 σ hf
    exact w_M_wells_40b C T ih x1 x2 x3 x4 σ hf
def f_M_wells (p1 : Int32) (p2 : Int32) (σ : zS) : Option (Int32 × zS) :=
  zbd (f_M_isPerson p1 σ) fun r2 σ1 =>
  (if r2 = 0 then
  some (-5, σ1)
  else
  zbd (f_M_in p2 0 9999 σ1) fun r4 σ3 =>
  (if r4 = 0 then
  some (-7, σ3)
  else
  zin p1 8 (zbd (f_M_spreads (σ3.2 11 p1.toNatClampNeg) σ3) fun _ σ5 =>
  f_M_wells_40 zfu p1 p2 0 0 σ5)))
set_option maxRecDepth 4000 in
theorem m_M_wells {l : Launch} {d : zD} {h : Nat → Nat} {out : Int32 × zS} {σ : zS} {p1 : Int32} {p2 : Int32} (hf : f_M_wells p1 p2 σ = some out) : zM l yX11_wells cX11_wells 5 (some .int) 9 206 d [.ref (h 0), .int p1, .int p2] (MW d h σ) (MW d h out.2) (some (.int out.1)) := by
  refine zM_of [some (.ref (h 0)), some (.int p1), some (.int p2), none, none] (by decide +kernel) rfl (Nat.le_of_ble_eq_true rfl) (fun F C T => ?_)
  unfold f_M_wells at hf
  refine zr_aload_n 0 1 C (by decide +kernel) rfl rfl ?_
  refine zr_iload_n 1 2 C (by decide +kernel) rfl rfl ?_
  refine k_M_isPerson (idx := 331) 5 C (by decide +kernel) rfl q_1398 (zb2 rfl rfl) (Nat.le_of_ble_eq_true rfl) hf (fun r2 σ1 hf => ?_)
  refine zr_if_ne (off := 6) 11 8 C (by decide +kernel) (by decide) rfl hf (fun hf => ?_) (fun hf => ?_)
  · refine zr_iload_n 2 12 C (by decide +kernel) rfl rfl ?_
    refine zr_iconst (v := 0) 0 13 C (by decide +kernel) rfl rfl ?_
    refine zr_sipush (v := 9999) 9999 16 C (by decide +kernel) rfl rfl ?_
    refine k_M_in (idx := 139) 19 C (by decide +kernel) rfl q_1181 (zb2 rfl rfl) (Nat.le_of_ble_eq_true rfl) hf (fun r4 σ3 hf => ?_)
    refine zr_if_ne (off := 6) 25 22 C (by decide +kernel) (by decide) rfl hf (fun hf => ?_) (fun hf => ?_)
    · refine zr_aload_n 0 26 C (by decide +kernel) rfl rfl ?_
      refine zr_aload_n 0 27 C (by decide +kernel) rfl rfl ?_
      refine mg_0_15 (idx := 40) 30 C (by decide +kernel) rfl q_1006 ?_
      refine zr_iload_n 1 31 C (by decide +kernel) rfl rfl ?_
      refine ml_11 32 C (by decide +kernel) rfl hf (fun hf => ?_)
      refine k_M_spreads (idx := 325) 35 C (by decide +kernel) rfl q_1377 (zb2 rfl rfl) (Nat.le_of_ble_eq_true rfl) hf (fun _ σ5 hf => ?_)
      refine zr_iconst (v := 0) 0 36 C (by decide +kernel) rfl rfl ?_
      refine zr_istore_n 3 [some (.ref (h 0)), some (.int p1), some (.int p2), some (.int 0), none] 37 C (by decide +kernel) rfl (by decide) rfl rfl ?_
      refine zr_iconst (v := 0) 0 38 C (by decide +kernel) rfl rfl ?_
      refine zr_istore 4 [some (.ref (h 0)), some (.int p1), some (.int p2), some (.int 0), some (.int 0)] 40 C (by decide +kernel) rfl (by decide) rfl rfl ?_
      exact w_M_wells_40 C T zfu _ _ _ _ _ hf
    · refine zr_bipush (v := (-7)) (-7) 24 C (by decide +kernel) rfl rfl ?_
      obtain rfl := Option.some.inj hf
      exact zr_iret C (by decide +kernel) T
  · refine zr_bipush (v := (-5)) (-5) 10 C (by decide +kernel) rfl rfl ?_
    obtain rfl := Option.some.inj hf
    exact zr_iret C (by decide +kernel) T
theorem y_M_wells : zY yX11_wells cX11_wells 5 (some .int) 2 := ⟨q_1425, q_90, by decide +kernel, by decide +kernel, by decide +kernel⟩
theorem k_M_wells {l : Launch} {d : zD} {F : zF} {h : Nat → Nat} {σ : zS} {lv : List (Option Value)} {pc : Nat} {own : String} {cc : ByteArray} {nL fr lo idx : Nat} {rest : List Value} {β : Type} {kf : Int32 → zS → Option β} {o2 : β} {p1 : Int32} {p2 : Int32} (pc' : Nat) (C : zOk d F own cc nL fr lo) (hd : decode cc pc = .ok (.invokevirtual idx, 3)) (hp : pc + 3 = pc') (hq : Cond.methodLink own idx yX11_wells ∈ zW) (hm : 9 + 1 ≤ fr ∧ 8 + (5 + 11) + 206 ≤ lo) (hr : (rest.map fun v => v.category).sum ≤ 8) (hf : zbd (f_M_wells p1 p2 σ) kf = some o2) (K : ∀ (r : Int32) (σ' : zS), kf r σ' = some o2 → V l d F 0 0 (MW d h σ') lv pc' (.int r :: rest)) : V l d F 0 0 (MW d h σ) lv pc (.int p2 :: .int p1 :: .ref (h 0) :: rest) := by
  obtain ⟨q, h1, h2⟩ := zbd_some hf
  exact zr_callV y_M_wells ⟨q_1423, q_1424⟩ 0 rfl rfl (As := [.int p1, .int p2]) (m_M_wells h1) rfl rfl pc' C hd hp hq hm hr (K _ _ h2)
/-! StepsBeyondModel.who(II)I -/
def f_M_who_66 (k26 : Int32 → Int32 → Int32 → Int32 → zS → Option (Int32 × zS)) (x1 : Int32) (x2 : Int32) (x4 : Int32) (y0 : Int32) (y1 : Int32) (σ : zS) : Option (Int32 × zS) :=
  zlt (y0 ||| y1) fun v1 => 
  k26 x1 x2 v1 (x4 + 1) σ
set_option maxRecDepth 4000 in
theorem w_M_who_66 {l : Launch} {d : zD} {F : zF} {h : Nat → Nat} {out : Int32 × zS} {k26 : Int32 → Int32 → Int32 → Int32 → zS → Option (Int32 × zS)} (C : zOk d F RX11 cX11_who 5 9 206) (T : zRt d F (some .int) (some (.int out.1)) (MW d h out.2)) (H26 : ∀ (x1 : Int32) (x2 : Int32) (x3 : Int32) (x4 : Int32) (σ : zS), k26 x1 x2 x3 x4 σ = some out → V l d F 0 0 (MW d h σ) [some (.ref (h 0)), some (.int x1), some (.int x2), some (.int x3), some (.int x4)] 26 []) (x1 : Int32) (x2 : Int32) (x4 : Int32) (y0 : Int32) (y1 : Int32) (σ : zS) (hf : f_M_who_66 k26 x1 x2 x4 y0 y1 σ = some out) : V l d F 0 0 (MW d h σ) [some (.ref (h 0)), some (.int x1), some (.int x2), none, some (.int x4)] 66 [.int y1, .int y0] := by
  unfold f_M_who_66 at hf
  refine zr_ior 67 C (by decide +kernel) rfl ?_
  refine zr_name hf (fun v1 hf => ?_)
  refine zr_istore_n 3 [some (.ref (h 0)), some (.int x1), some (.int x2), some (.int v1), some (.int x4)] 68 C (by decide +kernel) rfl (by decide) rfl rfl ?_
  refine zr_iinc (j := 1) 4 [some (.ref (h 0)), some (.int x1), some (.int x2), some (.int v1), some (.int (x4 + 1))] 71 C (by decide +kernel) rfl rfl rfl (by decide) rfl rfl ?_
  refine zr_goto (off := -45) 26 C (by decide +kernel) (by decide) ?_
  exact H26 _ _ _ _ _ hf
def f_M_who_26b (k26 : Int32 → Int32 → Int32 → Int32 → zS → Option (Int32 × zS)) (x1 : Int32) (x2 : Int32) (x3 : Int32) (x4 : Int32) (σ : zS) : Option (Int32 × zS) :=
  (if (σ.1 14) ≤ x4 then
  some (x3, σ)
  else
  zin x4 8 (zbd (f_M_spreads (σ.2 11 x4.toNatClampNeg) σ) fun _ σ1 =>
  zbd (f_M_why x4 x1 x2 σ1) fun r3 σ2 =>
  (if r3 = 0 then
  f_M_who_66 k26 x1 x2 x4 x3 (zshl 1 x4) σ2
  else
  f_M_who_66 k26 x1 x2 x4 x3 0 σ2)))
set_option maxRecDepth 4000 in
theorem w_M_who_26b {l : Launch} {d : zD} {F : zF} {h : Nat → Nat} {out : Int32 × zS} {k26 : Int32 → Int32 → Int32 → Int32 → zS → Option (Int32 × zS)} (C : zOk d F RX11 cX11_who 5 9 206) (T : zRt d F (some .int) (some (.int out.1)) (MW d h out.2)) (H26 : ∀ (x1 : Int32) (x2 : Int32) (x3 : Int32) (x4 : Int32) (σ : zS), k26 x1 x2 x3 x4 σ = some out → V l d F 0 0 (MW d h σ) [some (.ref (h 0)), some (.int x1), some (.int x2), some (.int x3), some (.int x4)] 26 []) (x1 : Int32) (x2 : Int32) (x3 : Int32) (x4 : Int32) (σ : zS) (hf : f_M_who_26b k26 x1 x2 x3 x4 σ = some out) : V l d F 0 0 (MW d h σ) [some (.ref (h 0)), some (.int x1), some (.int x2), some (.int x3), some (.int x4)] 26 [] := by
  unfold f_M_who_26b at hf
  refine zr_iload 4 28 C (by decide +kernel) rfl rfl ?_
  refine zr_aload_n 0 29 C (by decide +kernel) rfl rfl ?_
  refine mg_0_14 (idx := 328) 32 C (by decide +kernel) rfl q_1005 ?_
  refine zr_icmp_ge (off := 42) 74 35 C (by decide +kernel) (by decide) rfl hf (fun hf => ?_) (fun hf => ?_)
  · refine zr_iload_n 3 75 C (by decide +kernel) rfl rfl ?_
    obtain rfl := Option.some.inj hf
    exact zr_iret C (by decide +kernel) T
  · refine zr_aload_n 0 36 C (by decide +kernel) rfl rfl ?_
    refine zr_aload_n 0 37 C (by decide +kernel) rfl rfl ?_
    refine mg_0_15 (idx := 40) 40 C (by decide +kernel) rfl q_1006 ?_
    refine zr_iload 4 42 C (by decide +kernel) rfl rfl ?_
    refine ml_11 43 C (by decide +kernel) rfl hf (fun hf => ?_)
    refine k_M_spreads (idx := 325) 46 C (by decide +kernel) rfl q_1377 (zb2 rfl rfl) (Nat.le_of_ble_eq_true rfl) hf (fun _ σ1 hf => ?_)
    refine zr_iload_n 3 47 C (by decide +kernel) rfl rfl ?_
    refine zr_aload_n 0 48 C (by decide +kernel) rfl rfl ?_
    refine zr_iload 4 50 C (by decide +kernel) rfl rfl ?_
    refine zr_iload_n 1 51 C (by decide +kernel) rfl rfl ?_
    refine zr_iload_n 2 52 C (by decide +kernel) rfl rfl ?_
    refine k_M_why (idx := 340) 55 C (by decide +kernel) rfl q_1418 (zb2 rfl rfl) (Nat.le_of_ble_eq_true rfl) hf (fun r3 σ2 hf => ?_)
    refine zr_if_ne (off := 10) 65 58 C (by decide +kernel) (by decide) rfl hf (fun hf => ?_) (fun hf => ?_)
    · refine zr_iconst (v := 0) 0 66 C (by decide +kernel) rfl rfl ?_
      refine zr_less (zA (zA (zA (zN (zA zE))))) ?_
      exact w_M_who_66 C T H26 _ _ _ _ _ _ hf
    · refine zr_iconst (v := 1) 1 59 C (by decide +kernel) rfl rfl ?_
      refine zr_iload 4 61 C (by decide +kernel) rfl rfl ?_
      refine zr_ishl 62 C (by decide +kernel) rfl ?_
      refine zr_goto (off := 4) 66 C (by decide +kernel) (by decide) ?_
      refine zr_less (zA (zA (zA (zN (zA zE))))) ?_
      exact w_M_who_66 C T H26 _ _ _ _ _ _ hf
def f_M_who_26  : Nat → Int32 → Int32 → Int32 → Int32 → zS → Option (Int32 × zS)
  | 0, _, _, _, _, _ => none
  | n + 1, x1, x2, x3, x4,  σ => f_M_who_26b (fun x1 x2 x3 x4 σ => f_M_who_26  n x1 x2 x3 x4 σ) x1 x2 x3 x4 σ
theorem w_M_who_26 {l : Launch} {d : zD} {F : zF} {h : Nat → Nat} {out : Int32 × zS}  (C : zOk d F RX11 cX11_who 5 9 206) (T : zRt d F (some .int) (some (.int out.1)) (MW d h out.2))  : ∀ (n : Nat) (x1 : Int32) (x2 : Int32) (x3 : Int32) (x4 : Int32) (σ : zS), f_M_who_26  n x1 x2 x3 x4 σ = some out → V l d F 0 0 (MW d h σ) [some (.ref (h 0)), some (.int x1), some (.int x2), some (.int x3), some (.int x4)] 26 [] := by
  intro n
  induction n with
  | zero =>
    intro x1 x2 x3 x4 σ hf
    cases hf
  | succ n ih =>
    intro x1 x2 x3 x4 σ hf
    exact w_M_who_26b C T ih x1 x2 x3 x4 σ hf
def f_M_who (p1 : Int32) (p2 : Int32) (σ : zS) : Option (Int32 × zS) :=
  zbd (f_M_isPlace p1 σ) fun r2 σ1 =>
  (if r2 = 0 then
  some (-2, σ1)
  else
  zbd (f_M_in p2 0 9999 σ1) fun r4 σ3 =>
  (if r4 = 0 then
  some (-2, σ3)
  else
  f_M_who_26 zfu p1 p2 0 0 σ3))
set_option maxRecDepth 4000 in
theorem m_M_who {l : Launch} {d : zD} {h : Nat → Nat} {out : Int32 × zS} {σ : zS} {p1 : Int32} {p2 : Int32} (hf : f_M_who p1 p2 σ = some out) : zM l yX11_who cX11_who 5 (some .int) 9 206 d [.ref (h 0), .int p1, .int p2] (MW d h σ) (MW d h out.2) (some (.int out.1)) := by
  refine zM_of [some (.ref (h 0)), some (.int p1), some (.int p2), none, none] (by decide +kernel) rfl (Nat.le_of_ble_eq_true rfl) (fun F C T => ?_)
  unfold f_M_who at hf
  refine zr_iload_n 1 1 C (by decide +kernel) rfl rfl ?_
  refine k_M_isPlace (idx := 150) 4 C (by decide +kernel) rfl q_1178 (zb2 rfl rfl) (Nat.le_of_ble_eq_true rfl) hf (fun r2 σ1 hf => ?_)
  refine zr_if_eq (off := 14) 18 7 C (by decide +kernel) (by decide) rfl hf (fun hf => ?_) (fun hf => ?_)
  · refine zr_bipush (v := (-2)) (-2) 20 C (by decide +kernel) rfl rfl ?_
    obtain rfl := Option.some.inj hf
    exact zr_iret C (by decide +kernel) T
  · refine zr_iload_n 2 8 C (by decide +kernel) rfl rfl ?_
    refine zr_iconst (v := 0) 0 9 C (by decide +kernel) rfl rfl ?_
    refine zr_sipush (v := 9999) 9999 12 C (by decide +kernel) rfl rfl ?_
    refine k_M_in (idx := 139) 15 C (by decide +kernel) rfl q_1181 (zb2 rfl rfl) (Nat.le_of_ble_eq_true rfl) hf (fun r4 σ3 hf => ?_)
    refine zr_if_ne (off := 6) 21 18 C (by decide +kernel) (by decide) rfl hf (fun hf => ?_) (fun hf => ?_)
    · refine zr_iconst (v := 0) 0 22 C (by decide +kernel) rfl rfl ?_
      refine zr_istore_n 3 [some (.ref (h 0)), some (.int p1), some (.int p2), some (.int 0), none] 23 C (by decide +kernel) rfl (by decide) rfl rfl ?_
      refine zr_iconst (v := 0) 0 24 C (by decide +kernel) rfl rfl ?_
      refine zr_istore 4 [some (.ref (h 0)), some (.int p1), some (.int p2), some (.int 0), some (.int 0)] 26 C (by decide +kernel) rfl (by decide) rfl rfl ?_
      exact w_M_who_26 C T zfu _ _ _ _ _ hf
    · refine zr_bipush (v := (-2)) (-2) 20 C (by decide +kernel) rfl rfl ?_
      obtain rfl := Option.some.inj hf
      exact zr_iret C (by decide +kernel) T
theorem y_M_who : zY yX11_who cX11_who 5 (some .int) 2 := ⟨q_1429, q_90, by decide +kernel, by decide +kernel, by decide +kernel⟩
theorem k_M_who {l : Launch} {d : zD} {F : zF} {h : Nat → Nat} {σ : zS} {lv : List (Option Value)} {pc : Nat} {own : String} {cc : ByteArray} {nL fr lo idx : Nat} {rest : List Value} {β : Type} {kf : Int32 → zS → Option β} {o2 : β} {p1 : Int32} {p2 : Int32} (pc' : Nat) (C : zOk d F own cc nL fr lo) (hd : decode cc pc = .ok (.invokevirtual idx, 3)) (hp : pc + 3 = pc') (hq : Cond.methodLink own idx yX11_who ∈ zW) (hm : 9 + 1 ≤ fr ∧ 8 + (5 + 11) + 206 ≤ lo) (hr : (rest.map fun v => v.category).sum ≤ 8) (hf : zbd (f_M_who p1 p2 σ) kf = some o2) (K : ∀ (r : Int32) (σ' : zS), kf r σ' = some o2 → V l d F 0 0 (MW d h σ') lv pc' (.int r :: rest)) : V l d F 0 0 (MW d h σ) lv pc (.int p2 :: .int p1 :: .ref (h 0) :: rest) := by
  obtain ⟨q, h1, h2⟩ := zbd_some hf
  exact zr_callV y_M_who ⟨q_1427, q_1428⟩ 0 rfl rfl (As := [.int p1, .int p2]) (m_M_who h1) rfl rfl pc' C hd hp hq hm hr (K _ _ h2)
/-! StepsBeyondModel.meet(III)I -/
def f_M_meet_202 (k136 : Int32 → Int32 → Int32 → Int32 → zS → Option (Int32 × zS)) (x3 : Int32) (x4 : Int32) (x5 : Int32) (x6 : Int32) (σ : zS) : Option (Int32 × zS) :=
  k136 x3 x4 x5 (x6 + 1) σ
set_option maxRecDepth 4000 in
theorem w_M_meet_202 {l : Launch} {d : zD} {F : zF} {h : Nat → Nat} {out : Int32 × zS} {k136 : Int32 → Int32 → Int32 → Int32 → zS → Option (Int32 × zS)} (C : zOk d F RX11 cX11_meet 8 8 185) (T : zRt d F (some .int) (some (.int out.1)) (MW d h out.2)) (H136 : ∀ (x3 : Int32) (x4 : Int32) (x5 : Int32) (x6 : Int32) (σ : zS), k136 x3 x4 x5 x6 σ = some out → V l d F 0 0 (MW d h σ) [some (.ref (h 0)), none, none, some (.int x3), some (.int x4), some (.int x5), some (.int x6), none] 136 []) (x3 : Int32) (x4 : Int32) (x5 : Int32) (x6 : Int32) (σ : zS) (hf : f_M_meet_202 k136 x3 x4 x5 x6 σ = some out) : V l d F 0 0 (MW d h σ) [some (.ref (h 0)), none, none, some (.int x3), some (.int x4), some (.int x5), some (.int x6), none] 202 [] := by
  unfold f_M_meet_202 at hf
  refine zr_iinc (j := 1) 6 [some (.ref (h 0)), none, none, some (.int x3), some (.int x4), some (.int x5), some (.int (x6 + 1)), none] 205 C (by decide +kernel) rfl rfl rfl (by decide) rfl rfl ?_
  refine zr_goto (off := -69) 136 C (by decide +kernel) (by decide) ?_
  exact H136 _ _ _ _ _ hf
def f_M_meet_194 (k136 : Int32 → Int32 → Int32 → Int32 → zS → Option (Int32 × zS)) (x3 : Int32) (x6 : Int32) (x7 : Int32) (σ : zS) : Option (Int32 × zS) :=
  f_M_meet_202 k136 x3 x6 x7 x6 σ
set_option maxRecDepth 4000 in
theorem w_M_meet_194 {l : Launch} {d : zD} {F : zF} {h : Nat → Nat} {out : Int32 × zS} {k136 : Int32 → Int32 → Int32 → Int32 → zS → Option (Int32 × zS)} (C : zOk d F RX11 cX11_meet 8 8 185) (T : zRt d F (some .int) (some (.int out.1)) (MW d h out.2)) (H136 : ∀ (x3 : Int32) (x4 : Int32) (x5 : Int32) (x6 : Int32) (σ : zS), k136 x3 x4 x5 x6 σ = some out → V l d F 0 0 (MW d h σ) [some (.ref (h 0)), none, none, some (.int x3), some (.int x4), some (.int x5), some (.int x6), none] 136 []) (x3 : Int32) (x6 : Int32) (x7 : Int32) (σ : zS) (hf : f_M_meet_194 k136 x3 x6 x7 σ = some out) : V l d F 0 0 (MW d h σ) [some (.ref (h 0)), none, none, some (.int x3), none, none, some (.int x6), some (.int x7)] 194 [] := by
  unfold f_M_meet_194 at hf
  refine zr_iload 6 196 C (by decide +kernel) rfl rfl ?_
  refine zr_istore 4 [some (.ref (h 0)), none, none, some (.int x3), some (.int x6), none, some (.int x6), some (.int x7)] 198 C (by decide +kernel) rfl (by decide) rfl rfl ?_
  refine zr_iload 7 200 C (by decide +kernel) rfl rfl ?_
  refine zr_istore 5 [some (.ref (h 0)), none, none, some (.int x3), some (.int x6), some (.int x7), some (.int x6), some (.int x7)] 202 C (by decide +kernel) rfl (by decide) rfl rfl ?_
  refine zr_less (zA (zN (zN (zA (zA (zA (zA (zN zE)))))))) ?_
  exact w_M_meet_202 C T H136 _ _ _ _ _ hf
def f_M_meet_136b (k136 : Int32 → Int32 → Int32 → Int32 → zS → Option (Int32 × zS)) (x3 : Int32) (x4 : Int32) (x5 : Int32) (x6 : Int32) (σ : zS) : Option (Int32 × zS) :=
  (if 1600 ≤ x6 then
  (if x4 = (-1) then
  some (-1, σ)
  else
  (if x3 = 0 then
  some (x4, σ)
  else
  some (x5, σ)))
  else
  zin x6 1600 (zin x6 1600 (zlt ((σ.2 31 x6.toNatClampNeg) + (σ.2 28 x6.toNatClampNeg)) fun v1 => 
  zin x6 1600 ((if (σ.2 26 x6.toNatClampNeg) = 0 then
  f_M_meet_202 k136 x3 x4 x5 x6 σ
  else
  zin x6 1600 ((if (σ.2 27 x6.toNatClampNeg) = 0 then
  f_M_meet_202 k136 x3 x4 x5 x6 σ
  else
  (if x4 = (-1) then
  f_M_meet_194 k136 x3 x6 v1 σ
  else
  (if x5 ≤ v1 then
  f_M_meet_202 k136 x3 x4 x5 x6 σ
  else
  f_M_meet_194 k136 x3 x6 v1 σ)))))))))
set_option maxRecDepth 4000 in
theorem w_M_meet_136b {l : Launch} {d : zD} {F : zF} {h : Nat → Nat} {out : Int32 × zS} {k136 : Int32 → Int32 → Int32 → Int32 → zS → Option (Int32 × zS)} (C : zOk d F RX11 cX11_meet 8 8 185) (T : zRt d F (some .int) (some (.int out.1)) (MW d h out.2)) (H136 : ∀ (x3 : Int32) (x4 : Int32) (x5 : Int32) (x6 : Int32) (σ : zS), k136 x3 x4 x5 x6 σ = some out → V l d F 0 0 (MW d h σ) [some (.ref (h 0)), none, none, some (.int x3), some (.int x4), some (.int x5), some (.int x6), none] 136 []) (x3 : Int32) (x4 : Int32) (x5 : Int32) (x6 : Int32) (σ : zS) (hf : f_M_meet_136b k136 x3 x4 x5 x6 σ = some out) : V l d F 0 0 (MW d h σ) [some (.ref (h 0)), none, none, some (.int x3), some (.int x4), some (.int x5), some (.int x6), none] 136 [] := by
  unfold f_M_meet_136b at hf
  refine zr_iload 6 138 C (by decide +kernel) rfl rfl ?_
  refine zr_sipush (v := 1600) 1600 141 C (by decide +kernel) rfl rfl ?_
  refine zr_icmp_ge (off := 67) 208 144 C (by decide +kernel) (by decide) rfl hf (fun hf => ?_) (fun hf => ?_)
  · refine zr_iload 4 210 C (by decide +kernel) rfl rfl ?_
    refine zr_iconst (v := (-1)) (-1) 211 C (by decide +kernel) rfl rfl ?_
    refine zr_icmp_ne (off := 7) 218 214 C (by decide +kernel) (by decide) rfl hf (fun hf => ?_) (fun hf => ?_)
    · refine zr_iload_n 3 219 C (by decide +kernel) rfl rfl ?_
      refine zr_if_ne (off := 8) 227 222 C (by decide +kernel) (by decide) rfl hf (fun hf => ?_) (fun hf => ?_)
      · refine zr_iload 5 229 C (by decide +kernel) rfl rfl ?_
        obtain rfl := Option.some.inj hf
        exact zr_iret C (by decide +kernel) T
      · refine zr_iload 4 224 C (by decide +kernel) rfl rfl ?_
        refine zr_goto (off := 5) 229 C (by decide +kernel) (by decide) ?_
        obtain rfl := Option.some.inj hf
        exact zr_iret C (by decide +kernel) T
    · refine zr_iconst (v := (-1)) (-1) 215 C (by decide +kernel) rfl rfl ?_
      refine zr_goto (off := 14) 229 C (by decide +kernel) (by decide) ?_
      obtain rfl := Option.some.inj hf
      exact zr_iret C (by decide +kernel) T
  · refine zr_aload_n 0 145 C (by decide +kernel) rfl rfl ?_
    refine mg_0_59 (idx := 128) 148 C (by decide +kernel) rfl q_1050 ?_
    refine zr_iload 6 150 C (by decide +kernel) rfl rfl ?_
    refine ml_31 151 C (by decide +kernel) rfl hf (fun hf => ?_)
    refine zr_aload_n 0 152 C (by decide +kernel) rfl rfl ?_
    refine mg_0_54 (idx := 119) 155 C (by decide +kernel) rfl q_1045 ?_
    refine zr_iload 6 157 C (by decide +kernel) rfl rfl ?_
    refine ml_28 158 C (by decide +kernel) rfl hf (fun hf => ?_)
    refine zr_iadd 159 C (by decide +kernel) rfl ?_
    refine zr_name hf (fun v1 hf => ?_)
    refine zr_istore 7 [some (.ref (h 0)), none, none, some (.int x3), some (.int x4), some (.int x5), some (.int x6), some (.int v1)] 161 C (by decide +kernel) rfl (by decide) rfl rfl ?_
    refine zr_aload_n 0 162 C (by decide +kernel) rfl rfl ?_
    refine mg_0_52 (idx := 112) 165 C (by decide +kernel) rfl q_1043 ?_
    refine zr_iload 6 167 C (by decide +kernel) rfl rfl ?_
    refine ml_26 168 C (by decide +kernel) rfl hf (fun hf => ?_)
    refine zr_if_eq (off := 34) 202 171 C (by decide +kernel) (by decide) rfl hf (fun hf => ?_) (fun hf => ?_)
    · refine zr_less (zA (zN (zN (zA (zA (zA (zA (zN zE)))))))) ?_
      exact w_M_meet_202 C T H136 _ _ _ _ _ hf
    · refine zr_aload_n 0 172 C (by decide +kernel) rfl rfl ?_
      refine mg_0_53 (idx := 116) 175 C (by decide +kernel) rfl q_1044 ?_
      refine zr_iload 6 177 C (by decide +kernel) rfl rfl ?_
      refine ml_27 178 C (by decide +kernel) rfl hf (fun hf => ?_)
      refine zr_if_eq (off := 24) 202 181 C (by decide +kernel) (by decide) rfl hf (fun hf => ?_) (fun hf => ?_)
      · refine zr_less (zA (zN (zN (zA (zA (zA (zA (zN zE)))))))) ?_
        exact w_M_meet_202 C T H136 _ _ _ _ _ hf
      · refine zr_iload 4 183 C (by decide +kernel) rfl rfl ?_
        refine zr_iconst (v := (-1)) (-1) 184 C (by decide +kernel) rfl rfl ?_
        refine zr_icmp_eq (off := 10) 194 187 C (by decide +kernel) (by decide) rfl hf (fun hf => ?_) (fun hf => ?_)
        · refine zr_less (zA (zN (zN (zA (zN (zN (zA (zA zE)))))))) ?_
          exact w_M_meet_194 C T H136 _ _ _ _ hf
        · refine zr_iload 7 189 C (by decide +kernel) rfl rfl ?_
          refine zr_iload 5 191 C (by decide +kernel) rfl rfl ?_
          refine zr_icmp_ge (off := 11) 202 194 C (by decide +kernel) (by decide) rfl hf (fun hf => ?_) (fun hf => ?_)
          · refine zr_less (zA (zN (zN (zA (zA (zA (zA (zN zE)))))))) ?_
            exact w_M_meet_202 C T H136 _ _ _ _ _ hf
          · refine zr_less (zA (zN (zN (zA (zN (zN (zA (zA zE)))))))) ?_
            exact w_M_meet_194 C T H136 _ _ _ _ hf
def f_M_meet_136  : Nat → Int32 → Int32 → Int32 → Int32 → zS → Option (Int32 × zS)
  | 0, _, _, _, _, _ => none
  | n + 1, x3, x4, x5, x6,  σ => f_M_meet_136b (fun x3 x4 x5 x6 σ => f_M_meet_136  n x3 x4 x5 x6 σ) x3 x4 x5 x6 σ
theorem w_M_meet_136 {l : Launch} {d : zD} {F : zF} {h : Nat → Nat} {out : Int32 × zS}  (C : zOk d F RX11 cX11_meet 8 8 185) (T : zRt d F (some .int) (some (.int out.1)) (MW d h out.2))  : ∀ (n : Nat) (x3 : Int32) (x4 : Int32) (x5 : Int32) (x6 : Int32) (σ : zS), f_M_meet_136  n x3 x4 x5 x6 σ = some out → V l d F 0 0 (MW d h σ) [some (.ref (h 0)), none, none, some (.int x3), some (.int x4), some (.int x5), some (.int x6), none] 136 [] := by
  intro n
  induction n with
  | zero =>
    intro x3 x4 x5 x6 σ hf
    cases hf
  | succ n ih =>
    intro x3 x4 x5 x6 σ hf
    exact w_M_meet_136b C T ih x3 x4 x5 x6 σ hf
def f_M_meet_68b (k68 : Int32 → Int32 → Int32 → Int32 → zS → Option (Int32 × zS)) (x1 : Int32) (x2 : Int32) (x3 : Int32) (x4 : Int32) (σ : zS) : Option (Int32 × zS) :=
  (if 1600 ≤ x4 then
  zin x2 8 (zbd (f_M_spreads (σ.2 11 x2.toNatClampNeg) σ) fun _ σ1 =>
  zin x1 8 (zbd (f_M_marksOne (σ1.2 12 x1.toNatClampNeg) σ1) fun r3 σ2 =>
  zin x2 8 (zbd (f_M_marksOther (σ2.2 12 x2.toNatClampNeg) σ2) fun _ σ4 =>
  f_M_meet_136 zfu x3 (-1) 0 0 σ4)))
  else
  zin x4 1600 (zin x4 1600 (zlt (zsa σ 31 x4 (σ.2 28 x4.toNatClampNeg)) fun σ5 =>
  k68 x1 x2 x3 (x4 + 1) σ5)))
set_option maxRecDepth 4000 in
theorem w_M_meet_68b {l : Launch} {d : zD} {F : zF} {h : Nat → Nat} {out : Int32 × zS} {k68 : Int32 → Int32 → Int32 → Int32 → zS → Option (Int32 × zS)} (C : zOk d F RX11 cX11_meet 8 8 185) (T : zRt d F (some .int) (some (.int out.1)) (MW d h out.2)) (H68 : ∀ (x1 : Int32) (x2 : Int32) (x3 : Int32) (x4 : Int32) (σ : zS), k68 x1 x2 x3 x4 σ = some out → V l d F 0 0 (MW d h σ) [some (.ref (h 0)), some (.int x1), some (.int x2), some (.int x3), some (.int x4), none, none, none] 68 []) (x1 : Int32) (x2 : Int32) (x3 : Int32) (x4 : Int32) (σ : zS) (hf : f_M_meet_68b k68 x1 x2 x3 x4 σ = some out) : V l d F 0 0 (MW d h σ) [some (.ref (h 0)), some (.int x1), some (.int x2), some (.int x3), some (.int x4), none, none, none] 68 [] := by
  unfold f_M_meet_68b at hf
  refine zr_iload 4 70 C (by decide +kernel) rfl rfl ?_
  refine zr_sipush (v := 1600) 1600 73 C (by decide +kernel) rfl rfl ?_
  refine zr_icmp_ge (off := 23) 96 76 C (by decide +kernel) (by decide) rfl hf (fun hf => ?_) (fun hf => ?_)
  · refine zr_aload_n 0 97 C (by decide +kernel) rfl rfl ?_
    refine zr_aload_n 0 98 C (by decide +kernel) rfl rfl ?_
    refine mg_0_15 (idx := 40) 101 C (by decide +kernel) rfl q_1006 ?_
    refine zr_iload_n 2 102 C (by decide +kernel) rfl rfl ?_
    refine ml_11 103 C (by decide +kernel) rfl hf (fun hf => ?_)
    refine k_M_spreads (idx := 325) 106 C (by decide +kernel) rfl q_1377 (zb2 rfl rfl) (Nat.le_of_ble_eq_true rfl) hf (fun _ σ1 hf => ?_)
    refine zr_aload_n 0 107 C (by decide +kernel) rfl rfl ?_
    refine zr_aload_n 0 108 C (by decide +kernel) rfl rfl ?_
    refine mg_0_16 (idx := 43) 111 C (by decide +kernel) rfl q_1007 ?_
    refine zr_iload_n 1 112 C (by decide +kernel) rfl rfl ?_
    refine ml_12 113 C (by decide +kernel) rfl hf (fun hf => ?_)
    refine k_M_marksOne (idx := 305) 116 C (by decide +kernel) rfl q_1353 (zb2 rfl rfl) (Nat.le_of_ble_eq_true rfl) hf (fun r3 σ2 hf => ?_)
    refine zr_pop 117 C (by decide +kernel) rfl rfl ?_
    refine zr_aload_n 0 118 C (by decide +kernel) rfl rfl ?_
    refine zr_aload_n 0 119 C (by decide +kernel) rfl rfl ?_
    refine mg_0_16 (idx := 43) 122 C (by decide +kernel) rfl q_1007 ?_
    refine zr_iload_n 2 123 C (by decide +kernel) rfl rfl ?_
    refine ml_12 124 C (by decide +kernel) rfl hf (fun hf => ?_)
    refine k_M_marksOther (idx := 308) 127 C (by decide +kernel) rfl q_1361 (zb2 rfl rfl) (Nat.le_of_ble_eq_true rfl) hf (fun _ σ4 hf => ?_)
    refine zr_iconst (v := (-1)) (-1) 128 C (by decide +kernel) rfl rfl ?_
    refine zr_istore 4 [some (.ref (h 0)), some (.int x1), some (.int x2), some (.int x3), some (.int (-1)), none, none, none] 130 C (by decide +kernel) rfl (by decide) rfl rfl ?_
    refine zr_iconst (v := 0) 0 131 C (by decide +kernel) rfl rfl ?_
    refine zr_istore 5 [some (.ref (h 0)), some (.int x1), some (.int x2), some (.int x3), some (.int (-1)), some (.int 0), none, none] 133 C (by decide +kernel) rfl (by decide) rfl rfl ?_
    refine zr_iconst (v := 0) 0 134 C (by decide +kernel) rfl rfl ?_
    refine zr_istore 6 [some (.ref (h 0)), some (.int x1), some (.int x2), some (.int x3), some (.int (-1)), some (.int 0), some (.int 0), none] 136 C (by decide +kernel) rfl (by decide) rfl rfl ?_
    refine zr_less (zA (zN (zN (zA (zA (zA (zA (zN zE)))))))) ?_
    exact w_M_meet_136 C T zfu _ _ _ _ _ hf
  · refine zr_aload_n 0 77 C (by decide +kernel) rfl rfl ?_
    refine mg_0_59 (idx := 128) 80 C (by decide +kernel) rfl q_1050 ?_
    refine zr_iload 4 82 C (by decide +kernel) rfl rfl ?_
    refine zr_aload_n 0 83 C (by decide +kernel) rfl rfl ?_
    refine mg_0_54 (idx := 119) 86 C (by decide +kernel) rfl q_1045 ?_
    refine zr_iload 4 88 C (by decide +kernel) rfl rfl ?_
    refine ml_28 89 C (by decide +kernel) rfl hf (fun hf => ?_)
    refine ms_31 90 C (by decide +kernel) rfl hf (fun σ5 hf => ?_)
    refine zr_iinc (j := 1) 4 [some (.ref (h 0)), some (.int x1), some (.int x2), some (.int x3), some (.int (x4 + 1)), none, none, none] 93 C (by decide +kernel) rfl rfl rfl (by decide) rfl rfl ?_
    refine zr_goto (off := -25) 68 C (by decide +kernel) (by decide) ?_
    exact H68 _ _ _ _ _ hf
def f_M_meet_68  : Nat → Int32 → Int32 → Int32 → Int32 → zS → Option (Int32 × zS)
  | 0, _, _, _, _, _ => none
  | n + 1, x1, x2, x3, x4,  σ => f_M_meet_68b (fun x1 x2 x3 x4 σ => f_M_meet_68  n x1 x2 x3 x4 σ) x1 x2 x3 x4 σ
theorem w_M_meet_68 {l : Launch} {d : zD} {F : zF} {h : Nat → Nat} {out : Int32 × zS}  (C : zOk d F RX11 cX11_meet 8 8 185) (T : zRt d F (some .int) (some (.int out.1)) (MW d h out.2))  : ∀ (n : Nat) (x1 : Int32) (x2 : Int32) (x3 : Int32) (x4 : Int32) (σ : zS), f_M_meet_68  n x1 x2 x3 x4 σ = some out → V l d F 0 0 (MW d h σ) [some (.ref (h 0)), some (.int x1), some (.int x2), some (.int x3), some (.int x4), none, none, none] 68 [] := by
  intro n
  induction n with
  | zero =>
    intro x1 x2 x3 x4 σ hf
    cases hf
  | succ n ih =>
    intro x1 x2 x3 x4 σ hf
    exact w_M_meet_68b C T ih x1 x2 x3 x4 σ hf
def f_M_meet (p1 : Int32) (p2 : Int32) (p3 : Int32) (σ : zS) : Option (Int32 × zS) :=
  zbd (f_M_isPerson p1 σ) fun r2 σ1 =>
  (if r2 = 0 then
  some (-5, σ1)
  else
  zbd (f_M_isPerson p2 σ1) fun r4 σ3 =>
  (if r4 = 0 then
  some (-5, σ3)
  else
  (if p1 = p2 then
  some (-5, σ3)
  else
  zbd (f_M_in p3 0 1 σ3) fun r6 σ5 =>
  (if r6 = 0 then
  some (-7, σ5)
  else
  zbd (f_M_isOut p1 σ5) fun r8 σ7 =>
  (if r8 = 0 then
  zbd (f_M_isOut p2 σ7) fun r10 σ9 =>
  (if r10 = 0 then
  zin p1 8 (zbd (f_M_spreads (σ9.2 11 p1.toNatClampNeg) σ9) fun _ σ11 =>
  f_M_meet_68 zfu p1 p2 p3 0 σ11)
  else
  some (-3, σ9))
  else
  some (-3, σ7))))))
set_option maxRecDepth 4000 in
theorem m_M_meet {l : Launch} {d : zD} {h : Nat → Nat} {out : Int32 × zS} {σ : zS} {p1 : Int32} {p2 : Int32} {p3 : Int32} (hf : f_M_meet p1 p2 p3 σ = some out) : zM l yX11_meet cX11_meet 8 (some .int) 8 185 d [.ref (h 0), .int p1, .int p2, .int p3] (MW d h σ) (MW d h out.2) (some (.int out.1)) := by
  refine zM_of [some (.ref (h 0)), some (.int p1), some (.int p2), some (.int p3), none, none, none, none] (by decide +kernel) rfl (Nat.le_of_ble_eq_true rfl) (fun F C T => ?_)
  unfold f_M_meet at hf
  refine zr_aload_n 0 1 C (by decide +kernel) rfl rfl ?_
  refine zr_iload_n 1 2 C (by decide +kernel) rfl rfl ?_
  refine k_M_isPerson (idx := 331) 5 C (by decide +kernel) rfl q_1398 (zb2 rfl rfl) (Nat.le_of_ble_eq_true rfl) hf (fun r2 σ1 hf => ?_)
  refine zr_if_eq (off := 16) 21 8 C (by decide +kernel) (by decide) rfl hf (fun hf => ?_) (fun hf => ?_)
  · refine zr_bipush (v := (-5)) (-5) 23 C (by decide +kernel) rfl rfl ?_
    obtain rfl := Option.some.inj hf
    exact zr_iret C (by decide +kernel) T
  · refine zr_aload_n 0 9 C (by decide +kernel) rfl rfl ?_
    refine zr_iload_n 2 10 C (by decide +kernel) rfl rfl ?_
    refine k_M_isPerson (idx := 331) 13 C (by decide +kernel) rfl q_1398 (zb2 rfl rfl) (Nat.le_of_ble_eq_true rfl) hf (fun r4 σ3 hf => ?_)
    refine zr_if_eq (off := 8) 21 16 C (by decide +kernel) (by decide) rfl hf (fun hf => ?_) (fun hf => ?_)
    · refine zr_bipush (v := (-5)) (-5) 23 C (by decide +kernel) rfl rfl ?_
      obtain rfl := Option.some.inj hf
      exact zr_iret C (by decide +kernel) T
    · refine zr_iload_n 1 17 C (by decide +kernel) rfl rfl ?_
      refine zr_iload_n 2 18 C (by decide +kernel) rfl rfl ?_
      refine zr_icmp_ne (off := 6) 24 21 C (by decide +kernel) (by decide) rfl hf (fun hf => ?_) (fun hf => ?_)
      · refine zr_iload_n 3 25 C (by decide +kernel) rfl rfl ?_
        refine zr_iconst (v := 0) 0 26 C (by decide +kernel) rfl rfl ?_
        refine zr_iconst (v := 1) 1 27 C (by decide +kernel) rfl rfl ?_
        refine k_M_in (idx := 139) 30 C (by decide +kernel) rfl q_1181 (zb2 rfl rfl) (Nat.le_of_ble_eq_true rfl) hf (fun r6 σ5 hf => ?_)
        refine zr_if_ne (off := 6) 36 33 C (by decide +kernel) (by decide) rfl hf (fun hf => ?_) (fun hf => ?_)
        · refine zr_aload_n 0 37 C (by decide +kernel) rfl rfl ?_
          refine zr_iload_n 1 38 C (by decide +kernel) rfl rfl ?_
          refine k_M_isOut (idx := 334) 41 C (by decide +kernel) rfl q_1406 (zb2 rfl rfl) (Nat.le_of_ble_eq_true rfl) hf (fun r8 σ7 hf => ?_)
          refine zr_if_ne (off := 11) 52 44 C (by decide +kernel) (by decide) rfl hf (fun hf => ?_) (fun hf => ?_)
          · refine zr_bipush (v := (-3)) (-3) 54 C (by decide +kernel) rfl rfl ?_
            obtain rfl := Option.some.inj hf
            exact zr_iret C (by decide +kernel) T
          · refine zr_aload_n 0 45 C (by decide +kernel) rfl rfl ?_
            refine zr_iload_n 2 46 C (by decide +kernel) rfl rfl ?_
            refine k_M_isOut (idx := 334) 49 C (by decide +kernel) rfl q_1406 (zb2 rfl rfl) (Nat.le_of_ble_eq_true rfl) hf (fun r10 σ9 hf => ?_)
            refine zr_if_eq (off := 6) 55 52 C (by decide +kernel) (by decide) rfl hf (fun hf => ?_) (fun hf => ?_)
            · refine zr_aload_n 0 56 C (by decide +kernel) rfl rfl ?_
              refine zr_aload_n 0 57 C (by decide +kernel) rfl rfl ?_
              refine mg_0_15 (idx := 40) 60 C (by decide +kernel) rfl q_1006 ?_
              refine zr_iload_n 1 61 C (by decide +kernel) rfl rfl ?_
              refine ml_11 62 C (by decide +kernel) rfl hf (fun hf => ?_)
              refine k_M_spreads (idx := 325) 65 C (by decide +kernel) rfl q_1377 (zb2 rfl rfl) (Nat.le_of_ble_eq_true rfl) hf (fun _ σ11 hf => ?_)
              refine zr_iconst (v := 0) 0 66 C (by decide +kernel) rfl rfl ?_
              refine zr_istore 4 [some (.ref (h 0)), some (.int p1), some (.int p2), some (.int p3), some (.int 0), none, none, none] 68 C (by decide +kernel) rfl (by decide) rfl rfl ?_
              exact w_M_meet_68 C T zfu _ _ _ _ _ hf
            · refine zr_bipush (v := (-3)) (-3) 54 C (by decide +kernel) rfl rfl ?_
              obtain rfl := Option.some.inj hf
              exact zr_iret C (by decide +kernel) T
        · refine zr_bipush (v := (-7)) (-7) 35 C (by decide +kernel) rfl rfl ?_
          obtain rfl := Option.some.inj hf
          exact zr_iret C (by decide +kernel) T
      · refine zr_bipush (v := (-5)) (-5) 23 C (by decide +kernel) rfl rfl ?_
        obtain rfl := Option.some.inj hf
        exact zr_iret C (by decide +kernel) T
theorem y_M_meet : zY yX11_meet cX11_meet 8 (some .int) 3 := ⟨q_1433, q_90, by decide +kernel, by decide +kernel, by decide +kernel⟩
theorem k_M_meet {l : Launch} {d : zD} {F : zF} {h : Nat → Nat} {σ : zS} {lv : List (Option Value)} {pc : Nat} {own : String} {cc : ByteArray} {nL fr lo idx : Nat} {rest : List Value} {β : Type} {kf : Int32 → zS → Option β} {o2 : β} {p1 : Int32} {p2 : Int32} {p3 : Int32} (pc' : Nat) (C : zOk d F own cc nL fr lo) (hd : decode cc pc = .ok (.invokevirtual idx, 3)) (hp : pc + 3 = pc') (hq : Cond.methodLink own idx yX11_meet ∈ zW) (hm : 8 + 1 ≤ fr ∧ 8 + (8 + 11) + 185 ≤ lo) (hr : (rest.map fun v => v.category).sum ≤ 8) (hf : zbd (f_M_meet p1 p2 p3 σ) kf = some o2) (K : ∀ (r : Int32) (σ' : zS), kf r σ' = some o2 → V l d F 0 0 (MW d h σ') lv pc' (.int r :: rest)) : V l d F 0 0 (MW d h σ) lv pc (.int p3 :: .int p2 :: .int p1 :: .ref (h 0) :: rest) := by
  obtain ⟨q, h1, h2⟩ := zbd_some hf
  exact zr_callV y_M_meet ⟨q_1431, q_1432⟩ 0 rfl rfl (As := [.int p1, .int p2, .int p3]) (m_M_meet h1) rfl rfl pc' C hd hp hq hm hr (K _ _ h2)
/-! StepsBeyondModel.joins(II)Z -/
def f_M_joins_43 (k2 : Int32 → Int32 → Int32 → zS → Option (Int32 × zS)) (x1 : Int32) (x2 : Int32) (x3 : Int32) (σ : zS) : Option (Int32 × zS) :=
  k2 x1 x2 (x3 + 1) σ
set_option maxRecDepth 4000 in
theorem w_M_joins_43 {l : Launch} {d : zD} {F : zF} {h : Nat → Nat} {out : Int32 × zS} {k2 : Int32 → Int32 → Int32 → zS → Option (Int32 × zS)} (C : zOk d F RX11 cX11_joins 4 3 71) (T : zRt d F (some .boolean) (some (.int out.1)) (MW d h out.2)) (H2 : ∀ (x1 : Int32) (x2 : Int32) (x3 : Int32) (σ : zS), k2 x1 x2 x3 σ = some out → V l d F 0 0 (MW d h σ) [some (.ref (h 0)), some (.int x1), some (.int x2), some (.int x3)] 2 []) (x1 : Int32) (x2 : Int32) (x3 : Int32) (σ : zS) (hf : f_M_joins_43 k2 x1 x2 x3 σ = some out) : V l d F 0 0 (MW d h σ) [some (.ref (h 0)), some (.int x1), some (.int x2), some (.int x3)] 43 [] := by
  unfold f_M_joins_43 at hf
  refine zr_iinc (j := 1) 3 [some (.ref (h 0)), some (.int x1), some (.int x2), some (.int (x3 + 1))] 46 C (by decide +kernel) rfl rfl rfl (by decide) rfl rfl ?_
  refine zr_goto (off := -44) 2 C (by decide +kernel) (by decide) ?_
  exact H2 _ _ _ _ hf
def f_M_joins_2b (k2 : Int32 → Int32 → Int32 → zS → Option (Int32 × zS)) (x1 : Int32) (x2 : Int32) (x3 : Int32) (σ : zS) : Option (Int32 × zS) :=
  (if (σ.1 0) ≤ x3 then
  some (0, σ)
  else
  (if ((zshr x2 x3) &&& 1) = 1 then
  zin x3 20 (zin x3 20 (zbd (f_M_areNear x1 (σ.2 1 x3.toNatClampNeg) (1 + (σ.2 2 x3.toNatClampNeg)) σ) fun r2 σ1 =>
  (if r2 = 0 then
  f_M_joins_43 k2 x1 x2 x3 σ1
  else
  some (1, σ1))))
  else
  f_M_joins_43 k2 x1 x2 x3 σ))
set_option maxRecDepth 4000 in
theorem w_M_joins_2b {l : Launch} {d : zD} {F : zF} {h : Nat → Nat} {out : Int32 × zS} {k2 : Int32 → Int32 → Int32 → zS → Option (Int32 × zS)} (C : zOk d F RX11 cX11_joins 4 3 71) (T : zRt d F (some .boolean) (some (.int out.1)) (MW d h out.2)) (H2 : ∀ (x1 : Int32) (x2 : Int32) (x3 : Int32) (σ : zS), k2 x1 x2 x3 σ = some out → V l d F 0 0 (MW d h σ) [some (.ref (h 0)), some (.int x1), some (.int x2), some (.int x3)] 2 []) (x1 : Int32) (x2 : Int32) (x3 : Int32) (σ : zS) (hf : f_M_joins_2b k2 x1 x2 x3 σ = some out) : V l d F 0 0 (MW d h σ) [some (.ref (h 0)), some (.int x1), some (.int x2), some (.int x3)] 2 [] := by
  unfold f_M_joins_2b at hf
  refine zr_iload_n 3 3 C (by decide +kernel) rfl rfl ?_
  refine zr_aload_n 0 4 C (by decide +kernel) rfl rfl ?_
  refine mg_0_0 (idx := 143) 7 C (by decide +kernel) rfl q_991 ?_
  refine zr_icmp_ge (off := 42) 49 10 C (by decide +kernel) (by decide) rfl hf (fun hf => ?_) (fun hf => ?_)
  · refine zr_iconst (v := 0) 0 50 C (by decide +kernel) rfl rfl ?_
    obtain rfl := Option.some.inj hf
    exact zr_zret C (by decide +kernel) rfl T
  · refine zr_iload_n 2 11 C (by decide +kernel) rfl rfl ?_
    refine zr_iload_n 3 12 C (by decide +kernel) rfl rfl ?_
    refine zr_ishr 13 C (by decide +kernel) rfl ?_
    refine zr_iconst (v := 1) 1 14 C (by decide +kernel) rfl rfl ?_
    refine zr_iand 15 C (by decide +kernel) rfl ?_
    refine zr_iconst (v := 1) 1 16 C (by decide +kernel) rfl rfl ?_
    refine zr_icmp_ne (off := 27) 43 19 C (by decide +kernel) (by decide) rfl hf (fun hf => ?_) (fun hf => ?_)
    · exact w_M_joins_43 C T H2 _ _ _ _ hf
    · refine zr_aload_n 0 20 C (by decide +kernel) rfl rfl ?_
      refine zr_iload_n 1 21 C (by decide +kernel) rfl rfl ?_
      refine zr_aload_n 0 22 C (by decide +kernel) rfl rfl ?_
      refine mg_0_1 (idx := 7) 25 C (by decide +kernel) rfl q_992 ?_
      refine zr_iload_n 3 26 C (by decide +kernel) rfl rfl ?_
      refine ml_1 27 C (by decide +kernel) rfl hf (fun hf => ?_)
      refine zr_iconst (v := 1) 1 28 C (by decide +kernel) rfl rfl ?_
      refine zr_aload_n 0 29 C (by decide +kernel) rfl rfl ?_
      refine mg_0_2 (idx := 13) 32 C (by decide +kernel) rfl q_993 ?_
      refine zr_iload_n 3 33 C (by decide +kernel) rfl rfl ?_
      refine ml_2 34 C (by decide +kernel) rfl hf (fun hf => ?_)
      refine zr_iadd 35 C (by decide +kernel) rfl ?_
      refine k_M_areNear (idx := 235) 38 C (by decide +kernel) rfl q_1253 (zb2 rfl rfl) (Nat.le_of_ble_eq_true rfl) hf (fun r2 σ1 hf => ?_)
      refine zr_if_eq (off := 5) 43 41 C (by decide +kernel) (by decide) rfl hf (fun hf => ?_) (fun hf => ?_)
      · exact w_M_joins_43 C T H2 _ _ _ _ hf
      · refine zr_iconst (v := 1) 1 42 C (by decide +kernel) rfl rfl ?_
        obtain rfl := Option.some.inj hf
        exact zr_zret C (by decide +kernel) rfl T
def f_M_joins_2  : Nat → Int32 → Int32 → Int32 → zS → Option (Int32 × zS)
  | 0, _, _, _, _ => none
  | n + 1, x1, x2, x3,  σ => f_M_joins_2b (fun x1 x2 x3 σ => f_M_joins_2  n x1 x2 x3 σ) x1 x2 x3 σ
theorem w_M_joins_2 {l : Launch} {d : zD} {F : zF} {h : Nat → Nat} {out : Int32 × zS}  (C : zOk d F RX11 cX11_joins 4 3 71) (T : zRt d F (some .boolean) (some (.int out.1)) (MW d h out.2))  : ∀ (n : Nat) (x1 : Int32) (x2 : Int32) (x3 : Int32) (σ : zS), f_M_joins_2  n x1 x2 x3 σ = some out → V l d F 0 0 (MW d h σ) [some (.ref (h 0)), some (.int x1), some (.int x2), some (.int x3)] 2 [] := by
  intro n
  induction n with
  | zero =>
    intro x1 x2 x3 σ hf
    cases hf
  | succ n ih =>
    intro x1 x2 x3 σ hf
    exact w_M_joins_2b C T ih x1 x2 x3 σ hf
def f_M_joins (p1 : Int32) (p2 : Int32) (σ : zS) : Option (Int32 × zS) :=
  f_M_joins_2 zfu p1 p2 0 σ
set_option maxRecDepth 4000 in
theorem m_M_joins {l : Launch} {d : zD} {h : Nat → Nat} {out : Int32 × zS} {σ : zS} {p1 : Int32} {p2 : Int32} (hf : f_M_joins p1 p2 σ = some out) : zM l yX11_joins cX11_joins 4 (some .boolean) 3 71 d [.ref (h 0), .int p1, .int p2] (MW d h σ) (MW d h out.2) (some (.int out.1)) := by
  refine zM_of [some (.ref (h 0)), some (.int p1), some (.int p2), none] (by decide +kernel) rfl (Nat.le_of_ble_eq_true rfl) (fun F C T => ?_)
  unfold f_M_joins at hf
  refine zr_iconst (v := 0) 0 1 C (by decide +kernel) rfl rfl ?_
  refine zr_istore_n 3 [some (.ref (h 0)), some (.int p1), some (.int p2), some (.int 0)] 2 C (by decide +kernel) rfl (by decide) rfl rfl ?_
  exact w_M_joins_2 C T zfu _ _ _ _ hf
theorem y_M_joins : zY yX11_joins cX11_joins 4 (some .boolean) 2 := ⟨q_1441, q_90, by decide +kernel, by decide +kernel, by decide +kernel⟩
theorem k_M_joins {l : Launch} {d : zD} {F : zF} {h : Nat → Nat} {σ : zS} {lv : List (Option Value)} {pc : Nat} {own : String} {cc : ByteArray} {nL fr lo idx : Nat} {rest : List Value} {β : Type} {kf : Int32 → zS → Option β} {o2 : β} {p1 : Int32} {p2 : Int32} (pc' : Nat) (C : zOk d F own cc nL fr lo) (hd : decode cc pc = .ok (.invokevirtual idx, 3)) (hp : pc + 3 = pc') (hq : Cond.methodLink own idx yX11_joins ∈ zW) (hm : 3 + 1 ≤ fr ∧ 8 + (4 + 11) + 71 ≤ lo) (hr : (rest.map fun v => v.category).sum ≤ 8) (hf : zbd (f_M_joins p1 p2 σ) kf = some o2) (K : ∀ (r : Int32) (σ' : zS), kf r σ' = some o2 → V l d F 0 0 (MW d h σ') lv pc' (.int r :: rest)) : V l d F 0 0 (MW d h σ) lv pc (.int p2 :: .int p1 :: .ref (h 0) :: rest) := by
  obtain ⟨q, h1, h2⟩ := zbd_some hf
  exact zr_callV y_M_joins ⟨q_1440, q_70⟩ 0 rfl rfl (As := [.int p1, .int p2]) (m_M_joins h1) rfl rfl pc' C hd hp hq hm hr (K _ _ h2)
/-! StepsBeyondModel.shed(II)I -/
def f_M_shed_78 (k46 : Int32 → Int32 → Int32 → zS → Option (Int32 × zS)) (x3 : Int32) (x4 : Int32) (x5 : Int32) (σ : zS) : Option (Int32 × zS) :=
  k46 x3 x4 (x5 + 1) σ
set_option maxRecDepth 4000 in
theorem w_M_shed_78 {l : Launch} {d : zD} {F : zF} {h : Nat → Nat} {out : Int32 × zS} {k46 : Int32 → Int32 → Int32 → zS → Option (Int32 × zS)} (C : zOk d F RX11 cX11_shed 6 6 140) (T : zRt d F (some .int) (some (.int out.1)) (MW d h out.2)) (H46 : ∀ (x3 : Int32) (x4 : Int32) (x5 : Int32) (σ : zS), k46 x3 x4 x5 σ = some out → V l d F 0 0 (MW d h σ) [some (.ref (h 0)), none, none, some (.int x3), some (.int x4), some (.int x5)] 46 []) (x3 : Int32) (x4 : Int32) (x5 : Int32) (σ : zS) (hf : f_M_shed_78 k46 x3 x4 x5 σ = some out) : V l d F 0 0 (MW d h σ) [some (.ref (h 0)), none, none, some (.int x3), some (.int x4), some (.int x5)] 78 [] := by
  unfold f_M_shed_78 at hf
  refine zr_iinc (j := 1) 5 [some (.ref (h 0)), none, none, some (.int x3), some (.int x4), some (.int (x5 + 1))] 81 C (by decide +kernel) rfl rfl rfl (by decide) rfl rfl ?_
  refine zr_goto (off := -35) 46 C (by decide +kernel) (by decide) ?_
  exact H46 _ _ _ _ hf
def f_M_shed_46b (k46 : Int32 → Int32 → Int32 → zS → Option (Int32 × zS)) (x3 : Int32) (x4 : Int32) (x5 : Int32) (σ : zS) : Option (Int32 × zS) :=
  (if 1600 ≤ x5 then
  some (-6, σ)
  else
  zbd (f_M_joins x5 x3 σ) fun r2 σ1 =>
  (if r2 = 0 then
  f_M_shed_78 k46 x3 x4 x5 σ1
  else
  zbd (f_M_joins x5 x4 σ1) fun r4 σ3 =>
  (if r4 = 0 then
  f_M_shed_78 k46 x3 x4 x5 σ3
  else
  some (x5, σ3))))
set_option maxRecDepth 4000 in
theorem w_M_shed_46b {l : Launch} {d : zD} {F : zF} {h : Nat → Nat} {out : Int32 × zS} {k46 : Int32 → Int32 → Int32 → zS → Option (Int32 × zS)} (C : zOk d F RX11 cX11_shed 6 6 140) (T : zRt d F (some .int) (some (.int out.1)) (MW d h out.2)) (H46 : ∀ (x3 : Int32) (x4 : Int32) (x5 : Int32) (σ : zS), k46 x3 x4 x5 σ = some out → V l d F 0 0 (MW d h σ) [some (.ref (h 0)), none, none, some (.int x3), some (.int x4), some (.int x5)] 46 []) (x3 : Int32) (x4 : Int32) (x5 : Int32) (σ : zS) (hf : f_M_shed_46b k46 x3 x4 x5 σ = some out) : V l d F 0 0 (MW d h σ) [some (.ref (h 0)), none, none, some (.int x3), some (.int x4), some (.int x5)] 46 [] := by
  unfold f_M_shed_46b at hf
  refine zr_iload 5 48 C (by decide +kernel) rfl rfl ?_
  refine zr_sipush (v := 1600) 1600 51 C (by decide +kernel) rfl rfl ?_
  refine zr_icmp_ge (off := 33) 84 54 C (by decide +kernel) (by decide) rfl hf (fun hf => ?_) (fun hf => ?_)
  · refine zr_bipush (v := (-6)) (-6) 86 C (by decide +kernel) rfl rfl ?_
    obtain rfl := Option.some.inj hf
    exact zr_iret C (by decide +kernel) T
  · refine zr_aload_n 0 55 C (by decide +kernel) rfl rfl ?_
    refine zr_iload 5 57 C (by decide +kernel) rfl rfl ?_
    refine zr_iload_n 3 58 C (by decide +kernel) rfl rfl ?_
    refine k_M_joins (idx := 343) 61 C (by decide +kernel) rfl q_1438 (zb2 rfl rfl) (Nat.le_of_ble_eq_true rfl) hf (fun r2 σ1 hf => ?_)
    refine zr_if_eq (off := 17) 78 64 C (by decide +kernel) (by decide) rfl hf (fun hf => ?_) (fun hf => ?_)
    · exact w_M_shed_78 C T H46 _ _ _ _ hf
    · refine zr_aload_n 0 65 C (by decide +kernel) rfl rfl ?_
      refine zr_iload 5 67 C (by decide +kernel) rfl rfl ?_
      refine zr_iload 4 69 C (by decide +kernel) rfl rfl ?_
      refine k_M_joins (idx := 343) 72 C (by decide +kernel) rfl q_1438 (zb2 rfl rfl) (Nat.le_of_ble_eq_true rfl) hf (fun r4 σ3 hf => ?_)
      refine zr_if_eq (off := 6) 78 75 C (by decide +kernel) (by decide) rfl hf (fun hf => ?_) (fun hf => ?_)
      · exact w_M_shed_78 C T H46 _ _ _ _ hf
      · refine zr_iload 5 77 C (by decide +kernel) rfl rfl ?_
        obtain rfl := Option.some.inj hf
        exact zr_iret C (by decide +kernel) T
def f_M_shed_46  : Nat → Int32 → Int32 → Int32 → zS → Option (Int32 × zS)
  | 0, _, _, _, _ => none
  | n + 1, x3, x4, x5,  σ => f_M_shed_46b (fun x3 x4 x5 σ => f_M_shed_46  n x3 x4 x5 σ) x3 x4 x5 σ
theorem w_M_shed_46 {l : Launch} {d : zD} {F : zF} {h : Nat → Nat} {out : Int32 × zS}  (C : zOk d F RX11 cX11_shed 6 6 140) (T : zRt d F (some .int) (some (.int out.1)) (MW d h out.2))  : ∀ (n : Nat) (x3 : Int32) (x4 : Int32) (x5 : Int32) (σ : zS), f_M_shed_46  n x3 x4 x5 σ = some out → V l d F 0 0 (MW d h σ) [some (.ref (h 0)), none, none, some (.int x3), some (.int x4), some (.int x5)] 46 [] := by
  intro n
  induction n with
  | zero =>
    intro x3 x4 x5 σ hf
    cases hf
  | succ n ih =>
    intro x3 x4 x5 σ hf
    exact w_M_shed_46b C T ih x3 x4 x5 σ hf
def f_M_shed (p1 : Int32) (p2 : Int32) (σ : zS) : Option (Int32 × zS) :=
  zbd (f_M_isHouse p1 σ) fun r2 σ1 =>
  (if r2 = 0 then
  some (-1, σ1)
  else
  zbd (f_M_isHouse p2 σ1) fun r4 σ3 =>
  (if r4 = 0 then
  some (-1, σ3)
  else
  zbd (f_M_townOf p1 σ3) fun r6 σ5 =>
  (if ((zshr r6 p2) &&& 1) = 1 then
  some (-3, σ5)
  else
  zbd (f_M_townOf p2 σ5) fun r8 σ7 =>
  f_M_shed_46 zfu r6 r8 0 σ7)))
set_option maxRecDepth 4000 in
theorem m_M_shed {l : Launch} {d : zD} {h : Nat → Nat} {out : Int32 × zS} {σ : zS} {p1 : Int32} {p2 : Int32} (hf : f_M_shed p1 p2 σ = some out) : zM l yX11_shed cX11_shed 6 (some .int) 6 140 d [.ref (h 0), .int p1, .int p2] (MW d h σ) (MW d h out.2) (some (.int out.1)) := by
  refine zM_of [some (.ref (h 0)), some (.int p1), some (.int p2), none, none, none] (by decide +kernel) rfl (Nat.le_of_ble_eq_true rfl) (fun F C T => ?_)
  unfold f_M_shed at hf
  refine zr_aload_n 0 1 C (by decide +kernel) rfl rfl ?_
  refine zr_iload_n 1 2 C (by decide +kernel) rfl rfl ?_
  refine k_M_isHouse (idx := 154) 5 C (by decide +kernel) rfl q_1188 (zb2 rfl rfl) (Nat.le_of_ble_eq_true rfl) hf (fun r2 σ1 hf => ?_)
  refine zr_if_eq (off := 11) 16 8 C (by decide +kernel) (by decide) rfl hf (fun hf => ?_) (fun hf => ?_)
  · refine zr_iconst (v := (-1)) (-1) 17 C (by decide +kernel) rfl rfl ?_
    obtain rfl := Option.some.inj hf
    exact zr_iret C (by decide +kernel) T
  · refine zr_aload_n 0 9 C (by decide +kernel) rfl rfl ?_
    refine zr_iload_n 2 10 C (by decide +kernel) rfl rfl ?_
    refine k_M_isHouse (idx := 154) 13 C (by decide +kernel) rfl q_1188 (zb2 rfl rfl) (Nat.le_of_ble_eq_true rfl) hf (fun r4 σ3 hf => ?_)
    refine zr_if_ne (off := 5) 18 16 C (by decide +kernel) (by decide) rfl hf (fun hf => ?_) (fun hf => ?_)
    · refine zr_aload_n 0 19 C (by decide +kernel) rfl rfl ?_
      refine zr_iload_n 1 20 C (by decide +kernel) rfl rfl ?_
      refine k_M_townOf (idx := 251) 23 C (by decide +kernel) rfl q_1282 (zb2 rfl rfl) (Nat.le_of_ble_eq_true rfl) hf (fun r6 σ5 hf => ?_)
      refine zr_istore_n 3 [some (.ref (h 0)), some (.int p1), some (.int p2), some (.int r6), none, none] 24 C (by decide +kernel) rfl (by decide) rfl rfl ?_
      refine zr_iload_n 3 25 C (by decide +kernel) rfl rfl ?_
      refine zr_iload_n 2 26 C (by decide +kernel) rfl rfl ?_
      refine zr_ishr 27 C (by decide +kernel) rfl ?_
      refine zr_iconst (v := 1) 1 28 C (by decide +kernel) rfl rfl ?_
      refine zr_iand 29 C (by decide +kernel) rfl ?_
      refine zr_iconst (v := 1) 1 30 C (by decide +kernel) rfl rfl ?_
      refine zr_icmp_ne (off := 6) 36 33 C (by decide +kernel) (by decide) rfl hf (fun hf => ?_) (fun hf => ?_)
      · refine zr_aload_n 0 37 C (by decide +kernel) rfl rfl ?_
        refine zr_iload_n 2 38 C (by decide +kernel) rfl rfl ?_
        refine k_M_townOf (idx := 251) 41 C (by decide +kernel) rfl q_1282 (zb2 rfl rfl) (Nat.le_of_ble_eq_true rfl) hf (fun r8 σ7 hf => ?_)
        refine zr_istore 4 [some (.ref (h 0)), some (.int p1), some (.int p2), some (.int r6), some (.int r8), none] 43 C (by decide +kernel) rfl (by decide) rfl rfl ?_
        refine zr_iconst (v := 0) 0 44 C (by decide +kernel) rfl rfl ?_
        refine zr_istore 5 [some (.ref (h 0)), some (.int p1), some (.int p2), some (.int r6), some (.int r8), some (.int 0)] 46 C (by decide +kernel) rfl (by decide) rfl rfl ?_
        refine zr_less (zA (zN (zN (zA (zA (zA zE)))))) ?_
        exact w_M_shed_46 C T zfu _ _ _ _ hf
      · refine zr_bipush (v := (-3)) (-3) 35 C (by decide +kernel) rfl rfl ?_
        obtain rfl := Option.some.inj hf
        exact zr_iret C (by decide +kernel) T
    · refine zr_iconst (v := (-1)) (-1) 17 C (by decide +kernel) rfl rfl ?_
      obtain rfl := Option.some.inj hf
      exact zr_iret C (by decide +kernel) T
theorem y_M_shed : zY yX11_shed cX11_shed 6 (some .int) 2 := ⟨q_1437, q_90, by decide +kernel, by decide +kernel, by decide +kernel⟩
theorem k_M_shed {l : Launch} {d : zD} {F : zF} {h : Nat → Nat} {σ : zS} {lv : List (Option Value)} {pc : Nat} {own : String} {cc : ByteArray} {nL fr lo idx : Nat} {rest : List Value} {β : Type} {kf : Int32 → zS → Option β} {o2 : β} {p1 : Int32} {p2 : Int32} (pc' : Nat) (C : zOk d F own cc nL fr lo) (hd : decode cc pc = .ok (.invokevirtual idx, 3)) (hp : pc + 3 = pc') (hq : Cond.methodLink own idx yX11_shed ∈ zW) (hm : 6 + 1 ≤ fr ∧ 8 + (6 + 11) + 140 ≤ lo) (hr : (rest.map fun v => v.category).sum ≤ 8) (hf : zbd (f_M_shed p1 p2 σ) kf = some o2) (K : ∀ (r : Int32) (σ' : zS), kf r σ' = some o2 → V l d F 0 0 (MW d h σ') lv pc' (.int r :: rest)) : V l d F 0 0 (MW d h σ) lv pc (.int p2 :: .int p1 :: .ref (h 0) :: rest) := by
  obtain ⟨q, h1, h2⟩ := zbd_some hf
  exact zr_callV y_M_shed ⟨q_1435, q_1436⟩ 0 rfl rfl (As := [.int p1, .int p2]) (m_M_shed h1) rfl rfl pc' C hd hp hq hm hr (K _ _ h2)
/-! StepsBeyondModel.bridge(III)I -/
def f_M_bridge_159  (x2 : Int32) (x4 : Int32) (x6 : Int32) (σ : zS) : Option (Int32 × zS) :=
  (if ((zshr x4 x2) &&& 1) = 1 then
  some (x6, σ)
  else
  some (-3, σ))
set_option maxRecDepth 4000 in
theorem w_M_bridge_159 {l : Launch} {d : zD} {F : zF} {h : Nat → Nat} {out : Int32 × zS}  (C : zOk d F RX11 cX11_bridge 9 6 140) (T : zRt d F (some .int) (some (.int out.1)) (MW d h out.2))  (x2 : Int32) (x4 : Int32) (x6 : Int32) (σ : zS) (hf : f_M_bridge_159  x2 x4 x6 σ = some out) : V l d F 0 0 (MW d h σ) [none, none, some (.int x2), none, some (.int x4), none, some (.int x6), none, none] 159 [] := by
  unfold f_M_bridge_159 at hf
  refine zr_iload 4 161 C (by decide +kernel) rfl rfl ?_
  refine zr_iload_n 2 162 C (by decide +kernel) rfl rfl ?_
  refine zr_ishr 163 C (by decide +kernel) rfl ?_
  refine zr_iconst (v := 1) 1 164 C (by decide +kernel) rfl rfl ?_
  refine zr_iand 165 C (by decide +kernel) rfl ?_
  refine zr_iconst (v := 1) 1 166 C (by decide +kernel) rfl rfl ?_
  refine zr_icmp_ne (off := 8) 174 169 C (by decide +kernel) (by decide) rfl hf (fun hf => ?_) (fun hf => ?_)
  · refine zr_bipush (v := (-3)) (-3) 176 C (by decide +kernel) rfl rfl ?_
    obtain rfl := Option.some.inj hf
    exact zr_iret C (by decide +kernel) T
  · refine zr_iload 6 171 C (by decide +kernel) rfl rfl ?_
    refine zr_goto (off := 5) 176 C (by decide +kernel) (by decide) ?_
    obtain rfl := Option.some.inj hf
    exact zr_iret C (by decide +kernel) T
def f_M_bridge_147 (k44 : Int32 → Int32 → Int32 → Int32 → Int32 → zS → Option (Int32 × zS)) (k67 : Int32 → Int32 → Int32 → Int32 → Int32 → Int32 → zS → Option (Int32 × zS)) (x2 : Int32) (x3 : Int32) (x4 : Int32) (x5 : Int32) (x6 : Int32) (x7 : Int32) (σ : zS) : Option (Int32 × zS) :=
  k67 x2 x3 x4 x5 x6 (x7 + 1) σ
set_option maxRecDepth 4000 in
theorem w_M_bridge_147 {l : Launch} {d : zD} {F : zF} {h : Nat → Nat} {out : Int32 × zS} {k44 : Int32 → Int32 → Int32 → Int32 → Int32 → zS → Option (Int32 × zS)} {k67 : Int32 → Int32 → Int32 → Int32 → Int32 → Int32 → zS → Option (Int32 × zS)} (C : zOk d F RX11 cX11_bridge 9 6 140) (T : zRt d F (some .int) (some (.int out.1)) (MW d h out.2)) (H44 : ∀ (x2 : Int32) (x3 : Int32) (x4 : Int32) (x5 : Int32) (x6 : Int32) (σ : zS), k44 x2 x3 x4 x5 x6 σ = some out → V l d F 0 0 (MW d h σ) [some (.ref (h 0)), none, some (.int x2), some (.int x3), some (.int x4), some (.int x5), some (.int x6), none, none] 44 []) (H67 : ∀ (x2 : Int32) (x3 : Int32) (x4 : Int32) (x5 : Int32) (x6 : Int32) (x7 : Int32) (σ : zS), k67 x2 x3 x4 x5 x6 x7 σ = some out → V l d F 0 0 (MW d h σ) [some (.ref (h 0)), none, some (.int x2), some (.int x3), some (.int x4), some (.int x5), some (.int x6), some (.int x7), none] 67 []) (x2 : Int32) (x3 : Int32) (x4 : Int32) (x5 : Int32) (x6 : Int32) (x7 : Int32) (σ : zS) (hf : f_M_bridge_147 k44 k67 x2 x3 x4 x5 x6 x7 σ = some out) : V l d F 0 0 (MW d h σ) [some (.ref (h 0)), none, some (.int x2), some (.int x3), some (.int x4), some (.int x5), some (.int x6), some (.int x7), none] 147 [] := by
  unfold f_M_bridge_147 at hf
  refine zr_iinc (j := 1) 7 [some (.ref (h 0)), none, some (.int x2), some (.int x3), some (.int x4), some (.int x5), some (.int x6), some (.int (x7 + 1)), none] 150 C (by decide +kernel) rfl rfl rfl (by decide) rfl rfl ?_
  refine zr_goto (off := -83) 67 C (by decide +kernel) (by decide) ?_
  exact H67 _ _ _ _ _ _ _ hf
def f_M_bridge_141 (k44 : Int32 → Int32 → Int32 → Int32 → Int32 → zS → Option (Int32 × zS)) (k67 : Int32 → Int32 → Int32 → Int32 → Int32 → Int32 → zS → Option (Int32 × zS)) (k79 : Int32 → Int32 → Int32 → Int32 → Int32 → Int32 → Int32 → zS → Option (Int32 × zS)) (x2 : Int32) (x3 : Int32) (x4 : Int32) (x5 : Int32) (x6 : Int32) (x7 : Int32) (x8 : Int32) (σ : zS) : Option (Int32 × zS) :=
  k79 x2 x3 x4 x5 x6 x7 (x8 + 1) σ
set_option maxRecDepth 4000 in
theorem w_M_bridge_141 {l : Launch} {d : zD} {F : zF} {h : Nat → Nat} {out : Int32 × zS} {k44 : Int32 → Int32 → Int32 → Int32 → Int32 → zS → Option (Int32 × zS)} {k67 : Int32 → Int32 → Int32 → Int32 → Int32 → Int32 → zS → Option (Int32 × zS)} {k79 : Int32 → Int32 → Int32 → Int32 → Int32 → Int32 → Int32 → zS → Option (Int32 × zS)} (C : zOk d F RX11 cX11_bridge 9 6 140) (T : zRt d F (some .int) (some (.int out.1)) (MW d h out.2)) (H44 : ∀ (x2 : Int32) (x3 : Int32) (x4 : Int32) (x5 : Int32) (x6 : Int32) (σ : zS), k44 x2 x3 x4 x5 x6 σ = some out → V l d F 0 0 (MW d h σ) [some (.ref (h 0)), none, some (.int x2), some (.int x3), some (.int x4), some (.int x5), some (.int x6), none, none] 44 []) (H67 : ∀ (x2 : Int32) (x3 : Int32) (x4 : Int32) (x5 : Int32) (x6 : Int32) (x7 : Int32) (σ : zS), k67 x2 x3 x4 x5 x6 x7 σ = some out → V l d F 0 0 (MW d h σ) [some (.ref (h 0)), none, some (.int x2), some (.int x3), some (.int x4), some (.int x5), some (.int x6), some (.int x7), none] 67 []) (H79 : ∀ (x2 : Int32) (x3 : Int32) (x4 : Int32) (x5 : Int32) (x6 : Int32) (x7 : Int32) (x8 : Int32) (σ : zS), k79 x2 x3 x4 x5 x6 x7 x8 σ = some out → V l d F 0 0 (MW d h σ) [some (.ref (h 0)), none, some (.int x2), some (.int x3), some (.int x4), some (.int x5), some (.int x6), some (.int x7), some (.int x8)] 79 []) (x2 : Int32) (x3 : Int32) (x4 : Int32) (x5 : Int32) (x6 : Int32) (x7 : Int32) (x8 : Int32) (σ : zS) (hf : f_M_bridge_141 k44 k67 k79 x2 x3 x4 x5 x6 x7 x8 σ = some out) : V l d F 0 0 (MW d h σ) [some (.ref (h 0)), none, some (.int x2), some (.int x3), some (.int x4), some (.int x5), some (.int x6), some (.int x7), some (.int x8)] 141 [] := by
  unfold f_M_bridge_141 at hf
  refine zr_iinc (j := 1) 8 [some (.ref (h 0)), none, some (.int x2), some (.int x3), some (.int x4), some (.int x5), some (.int x6), some (.int x7), some (.int (x8 + 1))] 144 C (by decide +kernel) rfl rfl rfl (by decide) rfl rfl ?_
  refine zr_goto (off := -65) 79 C (by decide +kernel) (by decide) ?_
  exact H79 _ _ _ _ _ _ _ _ hf
def f_M_bridge_79b (k44 : Int32 → Int32 → Int32 → Int32 → Int32 → zS → Option (Int32 × zS)) (k67 : Int32 → Int32 → Int32 → Int32 → Int32 → Int32 → zS → Option (Int32 × zS)) (k79 : Int32 → Int32 → Int32 → Int32 → Int32 → Int32 → Int32 → zS → Option (Int32 × zS)) (x2 : Int32) (x3 : Int32) (x4 : Int32) (x5 : Int32) (x6 : Int32) (x7 : Int32) (x8 : Int32) (σ : zS) : Option (Int32 × zS) :=
  (if (σ.1 0) ≤ x8 then
  f_M_bridge_147 k44 k67 x2 x3 x4 x5 x6 x7 σ
  else
  (if ((zshr x5 x7) &&& 1) = 1 then
  (if ((zshr x4 x8) &&& 1) = 0 then
  zin x7 20 (zin x8 20 (zbd (f_M_apart (σ.2 1 x7.toNatClampNeg) (σ.2 1 x8.toNatClampNeg) σ) fun r2 σ1 =>
  (if x3 < r2 then
  f_M_bridge_141 k44 k67 k79 x2 x3 x4 x5 x6 x7 x8 σ1
  else
  zbd (f_M_townOf x8 σ1) fun r4 σ3 =>
  zlt (x4 ||| r4) fun v5 => 
  f_M_bridge_141 k44 k67 k79 x2 x3 v5 x5 x6 x7 x8 σ3)))
  else
  f_M_bridge_141 k44 k67 k79 x2 x3 x4 x5 x6 x7 x8 σ)
  else
  f_M_bridge_147 k44 k67 x2 x3 x4 x5 x6 x7 σ))
set_option maxRecDepth 4000 in
theorem w_M_bridge_79b {l : Launch} {d : zD} {F : zF} {h : Nat → Nat} {out : Int32 × zS} {k44 : Int32 → Int32 → Int32 → Int32 → Int32 → zS → Option (Int32 × zS)} {k67 : Int32 → Int32 → Int32 → Int32 → Int32 → Int32 → zS → Option (Int32 × zS)} {k79 : Int32 → Int32 → Int32 → Int32 → Int32 → Int32 → Int32 → zS → Option (Int32 × zS)} (C : zOk d F RX11 cX11_bridge 9 6 140) (T : zRt d F (some .int) (some (.int out.1)) (MW d h out.2)) (H44 : ∀ (x2 : Int32) (x3 : Int32) (x4 : Int32) (x5 : Int32) (x6 : Int32) (σ : zS), k44 x2 x3 x4 x5 x6 σ = some out → V l d F 0 0 (MW d h σ) [some (.ref (h 0)), none, some (.int x2), some (.int x3), some (.int x4), some (.int x5), some (.int x6), none, none] 44 []) (H67 : ∀ (x2 : Int32) (x3 : Int32) (x4 : Int32) (x5 : Int32) (x6 : Int32) (x7 : Int32) (σ : zS), k67 x2 x3 x4 x5 x6 x7 σ = some out → V l d F 0 0 (MW d h σ) [some (.ref (h 0)), none, some (.int x2), some (.int x3), some (.int x4), some (.int x5), some (.int x6), some (.int x7), none] 67 []) (H79 : ∀ (x2 : Int32) (x3 : Int32) (x4 : Int32) (x5 : Int32) (x6 : Int32) (x7 : Int32) (x8 : Int32) (σ : zS), k79 x2 x3 x4 x5 x6 x7 x8 σ = some out → V l d F 0 0 (MW d h σ) [some (.ref (h 0)), none, some (.int x2), some (.int x3), some (.int x4), some (.int x5), some (.int x6), some (.int x7), some (.int x8)] 79 []) (x2 : Int32) (x3 : Int32) (x4 : Int32) (x5 : Int32) (x6 : Int32) (x7 : Int32) (x8 : Int32) (σ : zS) (hf : f_M_bridge_79b k44 k67 k79 x2 x3 x4 x5 x6 x7 x8 σ = some out) : V l d F 0 0 (MW d h σ) [some (.ref (h 0)), none, some (.int x2), some (.int x3), some (.int x4), some (.int x5), some (.int x6), some (.int x7), some (.int x8)] 79 [] := by
  unfold f_M_bridge_79b at hf
  refine zr_iload 8 81 C (by decide +kernel) rfl rfl ?_
  refine zr_aload_n 0 82 C (by decide +kernel) rfl rfl ?_
  refine mg_0_0 (idx := 143) 85 C (by decide +kernel) rfl q_991 ?_
  refine zr_icmp_ge (off := 62) 147 88 C (by decide +kernel) (by decide) rfl hf (fun hf => ?_) (fun hf => ?_)
  · refine zr_less (zA (zN (zA (zA (zA (zA (zA (zA (zN zE))))))))) ?_
    exact w_M_bridge_147 C T H44 H67 _ _ _ _ _ _ _ hf
  · refine zr_iload 5 90 C (by decide +kernel) rfl rfl ?_
    refine zr_iload 7 92 C (by decide +kernel) rfl rfl ?_
    refine zr_ishr 93 C (by decide +kernel) rfl ?_
    refine zr_iconst (v := 1) 1 94 C (by decide +kernel) rfl rfl ?_
    refine zr_iand 95 C (by decide +kernel) rfl ?_
    refine zr_iconst (v := 1) 1 96 C (by decide +kernel) rfl rfl ?_
    refine zr_icmp_ne (off := 51) 147 99 C (by decide +kernel) (by decide) rfl hf (fun hf => ?_) (fun hf => ?_)
    · refine zr_less (zA (zN (zA (zA (zA (zA (zA (zA (zN zE))))))))) ?_
      exact w_M_bridge_147 C T H44 H67 _ _ _ _ _ _ _ hf
    · refine zr_iload 4 101 C (by decide +kernel) rfl rfl ?_
      refine zr_iload 8 103 C (by decide +kernel) rfl rfl ?_
      refine zr_ishr 104 C (by decide +kernel) rfl ?_
      refine zr_iconst (v := 1) 1 105 C (by decide +kernel) rfl rfl ?_
      refine zr_iand 106 C (by decide +kernel) rfl ?_
      refine zr_if_ne (off := 35) 141 109 C (by decide +kernel) (by decide) rfl hf (fun hf => ?_) (fun hf => ?_)
      · exact w_M_bridge_141 C T H44 H67 H79 _ _ _ _ _ _ _ _ hf
      · refine zr_aload_n 0 110 C (by decide +kernel) rfl rfl ?_
        refine mg_0_1 (idx := 7) 113 C (by decide +kernel) rfl q_992 ?_
        refine zr_iload 7 115 C (by decide +kernel) rfl rfl ?_
        refine ml_1 116 C (by decide +kernel) rfl hf (fun hf => ?_)
        refine zr_aload_n 0 117 C (by decide +kernel) rfl rfl ?_
        refine mg_0_1 (idx := 7) 120 C (by decide +kernel) rfl q_992 ?_
        refine zr_iload 8 122 C (by decide +kernel) rfl rfl ?_
        refine ml_1 123 C (by decide +kernel) rfl hf (fun hf => ?_)
        refine k_M_apart (idx := 225) 126 C (by decide +kernel) rfl q_1257 (zb2 rfl rfl) (Nat.le_of_ble_eq_true rfl) hf (fun r2 σ1 hf => ?_)
        refine zr_iload_n 3 127 C (by decide +kernel) rfl rfl ?_
        refine zr_icmp_gt (off := 14) 141 130 C (by decide +kernel) (by decide) rfl hf (fun hf => ?_) (fun hf => ?_)
        · exact w_M_bridge_141 C T H44 H67 H79 _ _ _ _ _ _ _ _ hf
        · refine zr_iload 4 132 C (by decide +kernel) rfl rfl ?_
          refine zr_aload_n 0 133 C (by decide +kernel) rfl rfl ?_
          refine zr_iload 8 135 C (by decide +kernel) rfl rfl ?_
          refine k_M_townOf (idx := 251) 138 C (by decide +kernel) rfl q_1282 (zb2 rfl rfl) (Nat.le_of_ble_eq_true rfl) hf (fun r4 σ3 hf => ?_)
          refine zr_ior 139 C (by decide +kernel) rfl ?_
          refine zr_name hf (fun v5 hf => ?_)
          refine zr_istore 4 [some (.ref (h 0)), none, some (.int x2), some (.int x3), some (.int v5), some (.int x5), some (.int x6), some (.int x7), some (.int x8)] 141 C (by decide +kernel) rfl (by decide) rfl rfl ?_
          exact w_M_bridge_141 C T H44 H67 H79 _ _ _ _ _ _ _ _ hf
def f_M_bridge_79 (k44 : Int32 → Int32 → Int32 → Int32 → Int32 → zS → Option (Int32 × zS)) (k67 : Int32 → Int32 → Int32 → Int32 → Int32 → Int32 → zS → Option (Int32 × zS)) : Nat → Int32 → Int32 → Int32 → Int32 → Int32 → Int32 → Int32 → zS → Option (Int32 × zS)
  | 0, _, _, _, _, _, _, _, _ => none
  | n + 1, x2, x3, x4, x5, x6, x7, x8,  σ => f_M_bridge_79b k44 k67 (fun x2 x3 x4 x5 x6 x7 x8 σ => f_M_bridge_79 k44 k67 n x2 x3 x4 x5 x6 x7 x8 σ) x2 x3 x4 x5 x6 x7 x8 σ
theorem w_M_bridge_79 {l : Launch} {d : zD} {F : zF} {h : Nat → Nat} {out : Int32 × zS} {k44 : Int32 → Int32 → Int32 → Int32 → Int32 → zS → Option (Int32 × zS)} {k67 : Int32 → Int32 → Int32 → Int32 → Int32 → Int32 → zS → Option (Int32 × zS)} (C : zOk d F RX11 cX11_bridge 9 6 140) (T : zRt d F (some .int) (some (.int out.1)) (MW d h out.2)) (H44 : ∀ (x2 : Int32) (x3 : Int32) (x4 : Int32) (x5 : Int32) (x6 : Int32) (σ : zS), k44 x2 x3 x4 x5 x6 σ = some out → V l d F 0 0 (MW d h σ) [some (.ref (h 0)), none, some (.int x2), some (.int x3), some (.int x4), some (.int x5), some (.int x6), none, none] 44 []) (H67 : ∀ (x2 : Int32) (x3 : Int32) (x4 : Int32) (x5 : Int32) (x6 : Int32) (x7 : Int32) (σ : zS), k67 x2 x3 x4 x5 x6 x7 σ = some out → V l d F 0 0 (MW d h σ) [some (.ref (h 0)), none, some (.int x2), some (.int x3), some (.int x4), some (.int x5), some (.int x6), some (.int x7), none] 67 []) : ∀ (n : Nat) (x2 : Int32) (x3 : Int32) (x4 : Int32) (x5 : Int32) (x6 : Int32) (x7 : Int32) (x8 : Int32) (σ : zS), f_M_bridge_79 k44 k67 n x2 x3 x4 x5 x6 x7 x8 σ = some out → V l d F 0 0 (MW d h σ) [some (.ref (h 0)), none, some (.int x2), some (.int x3), some (.int x4), some (.int x5), some (.int x6), some (.int x7), some (.int x8)] 79 [] := by
  intro n
  induction n with
  | zero =>
    intro x2 x3 x4 x5 x6 x7 x8 σ hf
    cases hf
  | succ n ih =>
    intro x2 x3 x4 x5 x6 x7 x8 σ hf
    exact w_M_bridge_79b C T H44 H67 ih x2 x3 x4 x5 x6 x7 x8 σ hf
def f_M_bridge_67b (k44 : Int32 → Int32 → Int32 → Int32 → Int32 → zS → Option (Int32 × zS)) (k67 : Int32 → Int32 → Int32 → Int32 → Int32 → Int32 → zS → Option (Int32 × zS)) (x2 : Int32) (x3 : Int32) (x4 : Int32) (x5 : Int32) (x6 : Int32) (x7 : Int32) (σ : zS) : Option (Int32 × zS) :=
  (if (σ.1 0) ≤ x7 then
  k44 x2 x3 x4 x5 (x6 + 1) σ
  else
  f_M_bridge_79 k44 k67 zfu x2 x3 x4 x5 x6 x7 0 σ)
set_option maxRecDepth 4000 in
theorem w_M_bridge_67b {l : Launch} {d : zD} {F : zF} {h : Nat → Nat} {out : Int32 × zS} {k44 : Int32 → Int32 → Int32 → Int32 → Int32 → zS → Option (Int32 × zS)} {k67 : Int32 → Int32 → Int32 → Int32 → Int32 → Int32 → zS → Option (Int32 × zS)} (C : zOk d F RX11 cX11_bridge 9 6 140) (T : zRt d F (some .int) (some (.int out.1)) (MW d h out.2)) (H44 : ∀ (x2 : Int32) (x3 : Int32) (x4 : Int32) (x5 : Int32) (x6 : Int32) (σ : zS), k44 x2 x3 x4 x5 x6 σ = some out → V l d F 0 0 (MW d h σ) [some (.ref (h 0)), none, some (.int x2), some (.int x3), some (.int x4), some (.int x5), some (.int x6), none, none] 44 []) (H67 : ∀ (x2 : Int32) (x3 : Int32) (x4 : Int32) (x5 : Int32) (x6 : Int32) (x7 : Int32) (σ : zS), k67 x2 x3 x4 x5 x6 x7 σ = some out → V l d F 0 0 (MW d h σ) [some (.ref (h 0)), none, some (.int x2), some (.int x3), some (.int x4), some (.int x5), some (.int x6), some (.int x7), none] 67 []) (x2 : Int32) (x3 : Int32) (x4 : Int32) (x5 : Int32) (x6 : Int32) (x7 : Int32) (σ : zS) (hf : f_M_bridge_67b k44 k67 x2 x3 x4 x5 x6 x7 σ = some out) : V l d F 0 0 (MW d h σ) [some (.ref (h 0)), none, some (.int x2), some (.int x3), some (.int x4), some (.int x5), some (.int x6), some (.int x7), none] 67 [] := by
  unfold f_M_bridge_67b at hf
  refine zr_iload 7 69 C (by decide +kernel) rfl rfl ?_
  refine zr_aload_n 0 70 C (by decide +kernel) rfl rfl ?_
  refine mg_0_0 (idx := 143) 73 C (by decide +kernel) rfl q_991 ?_
  refine zr_icmp_ge (off := 80) 153 76 C (by decide +kernel) (by decide) rfl hf (fun hf => ?_) (fun hf => ?_)
  · refine zr_iinc (j := 1) 6 [some (.ref (h 0)), none, some (.int x2), some (.int x3), some (.int x4), some (.int x5), some (.int (x6 + 1)), some (.int x7), none] 156 C (by decide +kernel) rfl rfl rfl (by decide) rfl rfl ?_
    refine zr_goto (off := -112) 44 C (by decide +kernel) (by decide) ?_
    refine zr_less (zA (zN (zA (zA (zA (zA (zA (zN (zN zE))))))))) ?_
    exact H44 _ _ _ _ _ _ hf
  · refine zr_iconst (v := 0) 0 77 C (by decide +kernel) rfl rfl ?_
    refine zr_istore 8 [some (.ref (h 0)), none, some (.int x2), some (.int x3), some (.int x4), some (.int x5), some (.int x6), some (.int x7), some (.int 0)] 79 C (by decide +kernel) rfl (by decide) rfl rfl ?_
    exact w_M_bridge_79 C T H44 H67 zfu _ _ _ _ _ _ _ _ hf
def f_M_bridge_67 (k44 : Int32 → Int32 → Int32 → Int32 → Int32 → zS → Option (Int32 × zS)) : Nat → Int32 → Int32 → Int32 → Int32 → Int32 → Int32 → zS → Option (Int32 × zS)
  | 0, _, _, _, _, _, _, _ => none
  | n + 1, x2, x3, x4, x5, x6, x7,  σ => f_M_bridge_67b k44 (fun x2 x3 x4 x5 x6 x7 σ => f_M_bridge_67 k44 n x2 x3 x4 x5 x6 x7 σ) x2 x3 x4 x5 x6 x7 σ
theorem w_M_bridge_67 {l : Launch} {d : zD} {F : zF} {h : Nat → Nat} {out : Int32 × zS} {k44 : Int32 → Int32 → Int32 → Int32 → Int32 → zS → Option (Int32 × zS)} (C : zOk d F RX11 cX11_bridge 9 6 140) (T : zRt d F (some .int) (some (.int out.1)) (MW d h out.2)) (H44 : ∀ (x2 : Int32) (x3 : Int32) (x4 : Int32) (x5 : Int32) (x6 : Int32) (σ : zS), k44 x2 x3 x4 x5 x6 σ = some out → V l d F 0 0 (MW d h σ) [some (.ref (h 0)), none, some (.int x2), some (.int x3), some (.int x4), some (.int x5), some (.int x6), none, none] 44 []) : ∀ (n : Nat) (x2 : Int32) (x3 : Int32) (x4 : Int32) (x5 : Int32) (x6 : Int32) (x7 : Int32) (σ : zS), f_M_bridge_67 k44 n x2 x3 x4 x5 x6 x7 σ = some out → V l d F 0 0 (MW d h σ) [some (.ref (h 0)), none, some (.int x2), some (.int x3), some (.int x4), some (.int x5), some (.int x6), some (.int x7), none] 67 [] := by
  intro n
  induction n with
  | zero =>
    intro x2 x3 x4 x5 x6 x7 σ hf
    cases hf
  | succ n ih =>
    intro x2 x3 x4 x5 x6 x7 σ hf
    exact w_M_bridge_67b C T H44 ih x2 x3 x4 x5 x6 x7 σ hf
def f_M_bridge_44b (k44 : Int32 → Int32 → Int32 → Int32 → Int32 → zS → Option (Int32 × zS)) (x2 : Int32) (x3 : Int32) (x4 : Int32) (x5 : Int32) (x6 : Int32) (σ : zS) : Option (Int32 × zS) :=
  (if ((zshr x4 x2) &&& 1) = 0 then
  (if x4 = x5 then
  f_M_bridge_159 x2 x4 x6 σ
  else
  f_M_bridge_67 k44 zfu x2 x3 x4 x4 x6 0 σ)
  else
  f_M_bridge_159 x2 x4 x6 σ)
set_option maxRecDepth 4000 in
theorem w_M_bridge_44b {l : Launch} {d : zD} {F : zF} {h : Nat → Nat} {out : Int32 × zS} {k44 : Int32 → Int32 → Int32 → Int32 → Int32 → zS → Option (Int32 × zS)} (C : zOk d F RX11 cX11_bridge 9 6 140) (T : zRt d F (some .int) (some (.int out.1)) (MW d h out.2)) (H44 : ∀ (x2 : Int32) (x3 : Int32) (x4 : Int32) (x5 : Int32) (x6 : Int32) (σ : zS), k44 x2 x3 x4 x5 x6 σ = some out → V l d F 0 0 (MW d h σ) [some (.ref (h 0)), none, some (.int x2), some (.int x3), some (.int x4), some (.int x5), some (.int x6), none, none] 44 []) (x2 : Int32) (x3 : Int32) (x4 : Int32) (x5 : Int32) (x6 : Int32) (σ : zS) (hf : f_M_bridge_44b k44 x2 x3 x4 x5 x6 σ = some out) : V l d F 0 0 (MW d h σ) [some (.ref (h 0)), none, some (.int x2), some (.int x3), some (.int x4), some (.int x5), some (.int x6), none, none] 44 [] := by
  unfold f_M_bridge_44b at hf
  refine zr_iload 4 46 C (by decide +kernel) rfl rfl ?_
  refine zr_iload_n 2 47 C (by decide +kernel) rfl rfl ?_
  refine zr_ishr 48 C (by decide +kernel) rfl ?_
  refine zr_iconst (v := 1) 1 49 C (by decide +kernel) rfl rfl ?_
  refine zr_iand 50 C (by decide +kernel) rfl ?_
  refine zr_if_ne (off := 109) 159 53 C (by decide +kernel) (by decide) rfl hf (fun hf => ?_) (fun hf => ?_)
  · refine zr_less (zN (zN (zA (zN (zA (zN (zA (zN (zN zE))))))))) ?_
    exact w_M_bridge_159 C T _ _ _ _ hf
  · refine zr_iload 4 55 C (by decide +kernel) rfl rfl ?_
    refine zr_iload 5 57 C (by decide +kernel) rfl rfl ?_
    refine zr_icmp_eq (off := 102) 159 60 C (by decide +kernel) (by decide) rfl hf (fun hf => ?_) (fun hf => ?_)
    · refine zr_less (zN (zN (zA (zN (zA (zN (zA (zN (zN zE))))))))) ?_
      exact w_M_bridge_159 C T _ _ _ _ hf
    · refine zr_iload 4 62 C (by decide +kernel) rfl rfl ?_
      refine zr_istore 5 [some (.ref (h 0)), none, some (.int x2), some (.int x3), some (.int x4), some (.int x4), some (.int x6), none, none] 64 C (by decide +kernel) rfl (by decide) rfl rfl ?_
      refine zr_iconst (v := 0) 0 65 C (by decide +kernel) rfl rfl ?_
      refine zr_istore 7 [some (.ref (h 0)), none, some (.int x2), some (.int x3), some (.int x4), some (.int x4), some (.int x6), some (.int 0), none] 67 C (by decide +kernel) rfl (by decide) rfl rfl ?_
      exact w_M_bridge_67 C T H44 zfu _ _ _ _ _ _ _ hf
def f_M_bridge_44  : Nat → Int32 → Int32 → Int32 → Int32 → Int32 → zS → Option (Int32 × zS)
  | 0, _, _, _, _, _, _ => none
  | n + 1, x2, x3, x4, x5, x6,  σ => f_M_bridge_44b (fun x2 x3 x4 x5 x6 σ => f_M_bridge_44  n x2 x3 x4 x5 x6 σ) x2 x3 x4 x5 x6 σ
theorem w_M_bridge_44 {l : Launch} {d : zD} {F : zF} {h : Nat → Nat} {out : Int32 × zS}  (C : zOk d F RX11 cX11_bridge 9 6 140) (T : zRt d F (some .int) (some (.int out.1)) (MW d h out.2))  : ∀ (n : Nat) (x2 : Int32) (x3 : Int32) (x4 : Int32) (x5 : Int32) (x6 : Int32) (σ : zS), f_M_bridge_44  n x2 x3 x4 x5 x6 σ = some out → V l d F 0 0 (MW d h σ) [some (.ref (h 0)), none, some (.int x2), some (.int x3), some (.int x4), some (.int x5), some (.int x6), none, none] 44 [] := by
  intro n
  induction n with
  | zero =>
    intro x2 x3 x4 x5 x6 σ hf
    cases hf
  | succ n ih =>
    intro x2 x3 x4 x5 x6 σ hf
    exact w_M_bridge_44b C T ih x2 x3 x4 x5 x6 σ hf
def f_M_bridge (p1 : Int32) (p2 : Int32) (p3 : Int32) (σ : zS) : Option (Int32 × zS) :=
  zbd (f_M_isHouse p1 σ) fun r2 σ1 =>
  (if r2 = 0 then
  some (-1, σ1)
  else
  zbd (f_M_isHouse p2 σ1) fun r4 σ3 =>
  (if r4 = 0 then
  some (-1, σ3)
  else
  zbd (f_M_in p3 0 80 σ3) fun r6 σ5 =>
  (if r6 = 0 then
  some (-2, σ5)
  else
  zbd (f_M_townOf p1 σ5) fun r8 σ7 =>
  f_M_bridge_44 zfu p2 p3 r8 0 0 σ7)))
set_option maxRecDepth 4000 in
theorem m_M_bridge {l : Launch} {d : zD} {h : Nat → Nat} {out : Int32 × zS} {σ : zS} {p1 : Int32} {p2 : Int32} {p3 : Int32} (hf : f_M_bridge p1 p2 p3 σ = some out) : zM l yX11_bridge cX11_bridge 9 (some .int) 6 140 d [.ref (h 0), .int p1, .int p2, .int p3] (MW d h σ) (MW d h out.2) (some (.int out.1)) := by
  refine zM_of [some (.ref (h 0)), some (.int p1), some (.int p2), some (.int p3), none, none, none, none, none] (by decide +kernel) rfl (Nat.le_of_ble_eq_true rfl) (fun F C T => ?_)
  unfold f_M_bridge at hf
  refine zr_aload_n 0 1 C (by decide +kernel) rfl rfl ?_
  refine zr_iload_n 1 2 C (by decide +kernel) rfl rfl ?_
  refine k_M_isHouse (idx := 154) 5 C (by decide +kernel) rfl q_1188 (zb2 rfl rfl) (Nat.le_of_ble_eq_true rfl) hf (fun r2 σ1 hf => ?_)
  refine zr_if_eq (off := 11) 16 8 C (by decide +kernel) (by decide) rfl hf (fun hf => ?_) (fun hf => ?_)
  · refine zr_iconst (v := (-1)) (-1) 17 C (by decide +kernel) rfl rfl ?_
    obtain rfl := Option.some.inj hf
    exact zr_iret C (by decide +kernel) T
  · refine zr_aload_n 0 9 C (by decide +kernel) rfl rfl ?_
    refine zr_iload_n 2 10 C (by decide +kernel) rfl rfl ?_
    refine k_M_isHouse (idx := 154) 13 C (by decide +kernel) rfl q_1188 (zb2 rfl rfl) (Nat.le_of_ble_eq_true rfl) hf (fun r4 σ3 hf => ?_)
    refine zr_if_ne (off := 5) 18 16 C (by decide +kernel) (by decide) rfl hf (fun hf => ?_) (fun hf => ?_)
    · refine zr_iload_n 3 19 C (by decide +kernel) rfl rfl ?_
      refine zr_iconst (v := 0) 0 20 C (by decide +kernel) rfl rfl ?_
      refine zr_bipush (v := 80) 80 22 C (by decide +kernel) rfl rfl ?_
      refine k_M_in (idx := 139) 25 C (by decide +kernel) rfl q_1181 (zb2 rfl rfl) (Nat.le_of_ble_eq_true rfl) hf (fun r6 σ5 hf => ?_)
      refine zr_if_ne (off := 6) 31 28 C (by decide +kernel) (by decide) rfl hf (fun hf => ?_) (fun hf => ?_)
      · refine zr_aload_n 0 32 C (by decide +kernel) rfl rfl ?_
        refine zr_iload_n 1 33 C (by decide +kernel) rfl rfl ?_
        refine k_M_townOf (idx := 251) 36 C (by decide +kernel) rfl q_1282 (zb2 rfl rfl) (Nat.le_of_ble_eq_true rfl) hf (fun r8 σ7 hf => ?_)
        refine zr_istore 4 [some (.ref (h 0)), some (.int p1), some (.int p2), some (.int p3), some (.int r8), none, none, none, none] 38 C (by decide +kernel) rfl (by decide) rfl rfl ?_
        refine zr_iconst (v := 0) 0 39 C (by decide +kernel) rfl rfl ?_
        refine zr_istore 5 [some (.ref (h 0)), some (.int p1), some (.int p2), some (.int p3), some (.int r8), some (.int 0), none, none, none] 41 C (by decide +kernel) rfl (by decide) rfl rfl ?_
        refine zr_iconst (v := 0) 0 42 C (by decide +kernel) rfl rfl ?_
        refine zr_istore 6 [some (.ref (h 0)), some (.int p1), some (.int p2), some (.int p3), some (.int r8), some (.int 0), some (.int 0), none, none] 44 C (by decide +kernel) rfl (by decide) rfl rfl ?_
        refine zr_less (zA (zN (zA (zA (zA (zA (zA (zN (zN zE))))))))) ?_
        exact w_M_bridge_44 C T zfu _ _ _ _ _ _ hf
      · refine zr_bipush (v := (-2)) (-2) 30 C (by decide +kernel) rfl rfl ?_
        obtain rfl := Option.some.inj hf
        exact zr_iret C (by decide +kernel) T
    · refine zr_iconst (v := (-1)) (-1) 17 C (by decide +kernel) rfl rfl ?_
      obtain rfl := Option.some.inj hf
      exact zr_iret C (by decide +kernel) T
theorem y_M_bridge : zY yX11_bridge cX11_bridge 9 (some .int) 3 := ⟨q_1445, q_90, by decide +kernel, by decide +kernel, by decide +kernel⟩
theorem k_M_bridge {l : Launch} {d : zD} {F : zF} {h : Nat → Nat} {σ : zS} {lv : List (Option Value)} {pc : Nat} {own : String} {cc : ByteArray} {nL fr lo idx : Nat} {rest : List Value} {β : Type} {kf : Int32 → zS → Option β} {o2 : β} {p1 : Int32} {p2 : Int32} {p3 : Int32} (pc' : Nat) (C : zOk d F own cc nL fr lo) (hd : decode cc pc = .ok (.invokevirtual idx, 3)) (hp : pc + 3 = pc') (hq : Cond.methodLink own idx yX11_bridge ∈ zW) (hm : 6 + 1 ≤ fr ∧ 8 + (9 + 11) + 140 ≤ lo) (hr : (rest.map fun v => v.category).sum ≤ 8) (hf : zbd (f_M_bridge p1 p2 p3 σ) kf = some o2) (K : ∀ (r : Int32) (σ' : zS), kf r σ' = some o2 → V l d F 0 0 (MW d h σ') lv pc' (.int r :: rest)) : V l d F 0 0 (MW d h σ) lv pc (.int p3 :: .int p2 :: .int p1 :: .ref (h 0) :: rest) := by
  obtain ⟨q, h1, h2⟩ := zbd_some hf
  exact zr_callV y_M_bridge ⟨q_1443, q_1444⟩ 0 rfl rfl (As := [.int p1, .int p2, .int p3]) (m_M_bridge h1) rfl rfl pc' C hd hp hq hm hr (K _ _ h2)
end
section
/-! StepsBeyondModel.count(I)I -/
def f_M_count_94 (k64 : Int32 → Int32 → Int32 → zS → Option (Int32 × zS)) (x2 : Int32) (x3 : Int32) (x4 : Int32) (σ : zS) : Option (Int32 × zS) :=
  k64 x2 x3 (x4 + 1) σ
set_option maxRecDepth 4000 in
theorem w_M_count_94 {l : Launch} {d : zD} {F : zF} {h : Nat → Nat} {out : Int32 × zS} {k64 : Int32 → Int32 → Int32 → zS → Option (Int32 × zS)} (C : zOk d F RX11 cX11_count 5 6 140) (T : zRt d F (some .int) (some (.int out.1)) (MW d h out.2)) (H64 : ∀ (x2 : Int32) (x3 : Int32) (x4 : Int32) (σ : zS), k64 x2 x3 x4 σ = some out → V l d F 0 0 (MW d h σ) [some (.ref (h 0)), none, some (.int x2), some (.int x3), some (.int x4)] 64 []) (x2 : Int32) (x3 : Int32) (x4 : Int32) (σ : zS) (hf : f_M_count_94 k64 x2 x3 x4 σ = some out) : V l d F 0 0 (MW d h σ) [some (.ref (h 0)), none, some (.int x2), some (.int x3), some (.int x4)] 94 [] := by
  unfold f_M_count_94 at hf
  refine zr_iinc (j := 1) 4 [some (.ref (h 0)), none, some (.int x2), some (.int x3), some (.int (x4 + 1))] 97 C (by decide +kernel) rfl rfl rfl (by decide) rfl rfl ?_
  refine zr_goto (off := -33) 64 C (by decide +kernel) (by decide) ?_
  exact H64 _ _ _ _ hf
def f_M_count_64b (k64 : Int32 → Int32 → Int32 → zS → Option (Int32 × zS)) (x2 : Int32) (x3 : Int32) (x4 : Int32) (σ : zS) : Option (Int32 × zS) :=
  (if (σ.1 0) ≤ x4 then
  some (x2, σ)
  else
  (if ((zshr x3 x4) &&& 1) = 0 then
  zbd (f_M_townOf x4 σ) fun r2 σ1 =>
  zlt (x3 ||| r2) fun v3 => 
  f_M_count_94 k64 (x2 + 1) v3 x4 σ1
  else
  f_M_count_94 k64 x2 x3 x4 σ))
set_option maxRecDepth 4000 in
theorem w_M_count_64b {l : Launch} {d : zD} {F : zF} {h : Nat → Nat} {out : Int32 × zS} {k64 : Int32 → Int32 → Int32 → zS → Option (Int32 × zS)} (C : zOk d F RX11 cX11_count 5 6 140) (T : zRt d F (some .int) (some (.int out.1)) (MW d h out.2)) (H64 : ∀ (x2 : Int32) (x3 : Int32) (x4 : Int32) (σ : zS), k64 x2 x3 x4 σ = some out → V l d F 0 0 (MW d h σ) [some (.ref (h 0)), none, some (.int x2), some (.int x3), some (.int x4)] 64 []) (x2 : Int32) (x3 : Int32) (x4 : Int32) (σ : zS) (hf : f_M_count_64b k64 x2 x3 x4 σ = some out) : V l d F 0 0 (MW d h σ) [some (.ref (h 0)), none, some (.int x2), some (.int x3), some (.int x4)] 64 [] := by
  unfold f_M_count_64b at hf
  refine zr_iload 4 66 C (by decide +kernel) rfl rfl ?_
  refine zr_aload_n 0 67 C (by decide +kernel) rfl rfl ?_
  refine mg_0_0 (idx := 143) 70 C (by decide +kernel) rfl q_991 ?_
  refine zr_icmp_ge (off := 30) 100 73 C (by decide +kernel) (by decide) rfl hf (fun hf => ?_) (fun hf => ?_)
  · refine zr_iload_n 2 101 C (by decide +kernel) rfl rfl ?_
    obtain rfl := Option.some.inj hf
    exact zr_iret C (by decide +kernel) T
  · refine zr_iload_n 3 74 C (by decide +kernel) rfl rfl ?_
    refine zr_iload 4 76 C (by decide +kernel) rfl rfl ?_
    refine zr_ishr 77 C (by decide +kernel) rfl ?_
    refine zr_iconst (v := 1) 1 78 C (by decide +kernel) rfl rfl ?_
    refine zr_iand 79 C (by decide +kernel) rfl ?_
    refine zr_if_ne (off := 15) 94 82 C (by decide +kernel) (by decide) rfl hf (fun hf => ?_) (fun hf => ?_)
    · exact w_M_count_94 C T H64 _ _ _ _ hf
    · refine zr_iload_n 3 83 C (by decide +kernel) rfl rfl ?_
      refine zr_aload_n 0 84 C (by decide +kernel) rfl rfl ?_
      refine zr_iload 4 86 C (by decide +kernel) rfl rfl ?_
      refine k_M_townOf (idx := 251) 89 C (by decide +kernel) rfl q_1282 (zb2 rfl rfl) (Nat.le_of_ble_eq_true rfl) hf (fun r2 σ1 hf => ?_)
      refine zr_ior 90 C (by decide +kernel) rfl ?_
      refine zr_name hf (fun v3 hf => ?_)
      refine zr_istore_n 3 [some (.ref (h 0)), none, some (.int x2), some (.int v3), some (.int x4)] 91 C (by decide +kernel) rfl (by decide) rfl rfl ?_
      refine zr_iinc (j := 1) 2 [some (.ref (h 0)), none, some (.int (x2 + 1)), some (.int v3), some (.int x4)] 94 C (by decide +kernel) rfl rfl rfl (by decide) rfl rfl ?_
      exact w_M_count_94 C T H64 _ _ _ _ hf
def f_M_count_64  : Nat → Int32 → Int32 → Int32 → zS → Option (Int32 × zS)
  | 0, _, _, _, _ => none
  | n + 1, x2, x3, x4,  σ => f_M_count_64b (fun x2 x3 x4 σ => f_M_count_64  n x2 x3 x4 σ) x2 x3 x4 σ
theorem w_M_count_64 {l : Launch} {d : zD} {F : zF} {h : Nat → Nat} {out : Int32 × zS}  (C : zOk d F RX11 cX11_count 5 6 140) (T : zRt d F (some .int) (some (.int out.1)) (MW d h out.2))  : ∀ (n : Nat) (x2 : Int32) (x3 : Int32) (x4 : Int32) (σ : zS), f_M_count_64  n x2 x3 x4 σ = some out → V l d F 0 0 (MW d h σ) [some (.ref (h 0)), none, some (.int x2), some (.int x3), some (.int x4)] 64 [] := by
  intro n
  induction n with
  | zero =>
    intro x2 x3 x4 σ hf
    cases hf
  | succ n ih =>
    intro x2 x3 x4 σ hf
    exact w_M_count_64b C T ih x2 x3 x4 σ hf
def f_M_count (p1 : Int32) (σ : zS) : Option (Int32 × zS) :=
  (if p1 = 0 then
  some (σ.1 0, σ)
  else
  (if p1 = 1 then
  f_M_count_64 zfu 0 0 0 σ
  else
  (if p1 = 2 then
  some (σ.1 3, σ)
  else
  (if p1 = 3 then
  some (σ.1 8, σ)
  else
  (if p1 = 4 then
  some (σ.1 14, σ)
  else
  (if p1 = 5 then
  some (σ.1 17, σ)
  else
  (if p1 = 6 then
  some (σ.1 23, σ)
  else
  (if p1 = 7 then
  some (σ.1 24, σ)
  else
  (if p1 = 8 then
  some (σ.1 20, σ)
  else
  some (-2, σ))))))))))
set_option maxRecDepth 4000 in
theorem m_M_count {l : Launch} {d : zD} {h : Nat → Nat} {out : Int32 × zS} {σ : zS} {p1 : Int32} (hf : f_M_count p1 σ = some out) : zM l yX11_count cX11_count 5 (some .int) 6 140 d [.ref (h 0), .int p1] (MW d h σ) (MW d h out.2) (some (.int out.1)) := by
  refine zM_of [some (.ref (h 0)), some (.int p1), none, none, none] (by decide +kernel) rfl (Nat.le_of_ble_eq_true rfl) (fun F C T => ?_)
  unfold f_M_count at hf
  refine zr_iconst (v := 0) 0 1 C (by decide +kernel) rfl rfl ?_
  refine zr_istore_n 2 [some (.ref (h 0)), some (.int p1), some (.int 0), none, none] 2 C (by decide +kernel) rfl (by decide) rfl rfl ?_
  refine zr_iconst (v := 0) 0 3 C (by decide +kernel) rfl rfl ?_
  refine zr_istore_n 3 [some (.ref (h 0)), some (.int p1), some (.int 0), some (.int 0), none] 4 C (by decide +kernel) rfl (by decide) rfl rfl ?_
  refine zr_iload_n 1 5 C (by decide +kernel) rfl rfl ?_
  refine zr_tcase (dflt := 132) (lw := 0) (hi := 8) (offs := #[51, 56, 97, 102, 107, 112, 117, 122, 127]) (len := 51) (off := 51) (j := 0) 0 56 C (by decide +kernel) (by decide) (by decide) rfl (by decide) hf (fun hf => ?_) (fun hn0 hf => ?_)
  · refine zr_aload_n 0 57 C (by decide +kernel) rfl rfl ?_
    refine mg_0_0 (idx := 143) 60 C (by decide +kernel) rfl q_991 ?_
    obtain rfl := Option.some.inj hf
    exact zr_iret C (by decide +kernel) T
  refine zr_tcase (dflt := 132) (lw := 0) (hi := 8) (offs := #[51, 56, 97, 102, 107, 112, 117, 122, 127]) (len := 51) (off := 56) (j := 1) 1 61 C (by decide +kernel) (by decide) (by decide) rfl (by decide) hf (fun hf => ?_) (fun hn1 hf => ?_)
  · refine zr_iconst (v := 0) 0 62 C (by decide +kernel) rfl rfl ?_
    refine zr_istore 4 [some (.ref (h 0)), some (.int p1), some (.int 0), some (.int 0), some (.int 0)] 64 C (by decide +kernel) rfl (by decide) rfl rfl ?_
    refine zr_less (zA (zN (zA (zA (zA zE))))) ?_
    exact w_M_count_64 C T zfu _ _ _ _ hf
  refine zr_tcase (dflt := 132) (lw := 0) (hi := 8) (offs := #[51, 56, 97, 102, 107, 112, 117, 122, 127]) (len := 51) (off := 97) (j := 2) 2 102 C (by decide +kernel) (by decide) (by decide) rfl (by decide) hf (fun hf => ?_) (fun hn2 hf => ?_)
  · refine zr_aload_n 0 103 C (by decide +kernel) rfl rfl ?_
    refine mg_0_3 (idx := 257) 106 C (by decide +kernel) rfl q_994 ?_
    obtain rfl := Option.some.inj hf
    exact zr_iret C (by decide +kernel) T
  refine zr_tcase (dflt := 132) (lw := 0) (hi := 8) (offs := #[51, 56, 97, 102, 107, 112, 117, 122, 127]) (len := 51) (off := 102) (j := 3) 3 107 C (by decide +kernel) (by decide) (by decide) rfl (by decide) hf (fun hf => ?_) (fun hn3 hf => ?_)
  · refine zr_aload_n 0 108 C (by decide +kernel) rfl rfl ?_
    refine mg_0_8 (idx := 229) 111 C (by decide +kernel) rfl q_999 ?_
    obtain rfl := Option.some.inj hf
    exact zr_iret C (by decide +kernel) T
  refine zr_tcase (dflt := 132) (lw := 0) (hi := 8) (offs := #[51, 56, 97, 102, 107, 112, 117, 122, 127]) (len := 51) (off := 107) (j := 4) 4 112 C (by decide +kernel) (by decide) (by decide) rfl (by decide) hf (fun hf => ?_) (fun hn4 hf => ?_)
  · refine zr_aload_n 0 113 C (by decide +kernel) rfl rfl ?_
    refine mg_0_14 (idx := 328) 116 C (by decide +kernel) rfl q_1005 ?_
    obtain rfl := Option.some.inj hf
    exact zr_iret C (by decide +kernel) T
  refine zr_tcase (dflt := 132) (lw := 0) (hi := 8) (offs := #[51, 56, 97, 102, 107, 112, 117, 122, 127]) (len := 51) (off := 112) (j := 5) 5 117 C (by decide +kernel) (by decide) (by decide) rfl (by decide) hf (fun hf => ?_) (fun hn5 hf => ?_)
  · refine zr_aload_n 0 118 C (by decide +kernel) rfl rfl ?_
    refine mg_0_17 (idx := 337) 121 C (by decide +kernel) rfl q_1008 ?_
    obtain rfl := Option.some.inj hf
    exact zr_iret C (by decide +kernel) T
  refine zr_tcase (dflt := 132) (lw := 0) (hi := 8) (offs := #[51, 56, 97, 102, 107, 112, 117, 122, 127]) (len := 51) (off := 117) (j := 6) 6 122 C (by decide +kernel) (by decide) (by decide) rfl (by decide) hf (fun hf => ?_) (fun hn6 hf => ?_)
  · refine zr_aload_n 0 123 C (by decide +kernel) rfl rfl ?_
    refine mg_0_23 (idx := 58) 126 C (by decide +kernel) rfl q_1014 ?_
    obtain rfl := Option.some.inj hf
    exact zr_iret C (by decide +kernel) T
  refine zr_tcase (dflt := 132) (lw := 0) (hi := 8) (offs := #[51, 56, 97, 102, 107, 112, 117, 122, 127]) (len := 51) (off := 122) (j := 7) 7 127 C (by decide +kernel) (by decide) (by decide) rfl (by decide) hf (fun hf => ?_) (fun hn7 hf => ?_)
  · refine zr_aload_n 0 128 C (by decide +kernel) rfl rfl ?_
    refine mg_0_24 (idx := 218) 131 C (by decide +kernel) rfl q_1015 ?_
    obtain rfl := Option.some.inj hf
    exact zr_iret C (by decide +kernel) T
  refine zr_tcase (dflt := 132) (lw := 0) (hi := 8) (offs := #[51, 56, 97, 102, 107, 112, 117, 122, 127]) (len := 51) (off := 127) (j := 8) 8 132 C (by decide +kernel) (by decide) (by decide) rfl (by decide) hf (fun hf => ?_) (fun hn8 hf => ?_)
  · refine zr_aload_n 0 133 C (by decide +kernel) rfl rfl ?_
    refine mg_0_20 (idx := 157) 136 C (by decide +kernel) rfl q_1011 ?_
    obtain rfl := Option.some.inj hf
    exact zr_iret C (by decide +kernel) T
  refine zr_tdflt (dflt := 132) (lw := 0) (hi := 8) (offs := #[51, 56, 97, 102, 107, 112, 117, 122, 127]) (len := 51) 137 C (by decide +kernel) (by decide) (by decide) (fun j hj hx => ?_) ?_
  · rcases (show j = 0 ∨ j = 1 ∨ j = 2 ∨ j = 3 ∨ j = 4 ∨ j = 5 ∨ j = 6 ∨ j = 7 ∨ j = 8 by have hj2 : j < 9 := hj; omega) with rfl | rfl | rfl | rfl | rfl | rfl | rfl | rfl | rfl
    · exact absurd (z_ti (c := 0) (by decide) hx) hn0
    · exact absurd (z_ti (c := 1) (by decide) hx) hn1
    · exact absurd (z_ti (c := 2) (by decide) hx) hn2
    · exact absurd (z_ti (c := 3) (by decide) hx) hn3
    · exact absurd (z_ti (c := 4) (by decide) hx) hn4
    · exact absurd (z_ti (c := 5) (by decide) hx) hn5
    · exact absurd (z_ti (c := 6) (by decide) hx) hn6
    · exact absurd (z_ti (c := 7) (by decide) hx) hn7
    · exact absurd (z_ti (c := 8) (by decide) hx) hn8
  refine zr_bipush (v := (-2)) (-2) 139 C (by decide +kernel) rfl rfl ?_
  obtain rfl := Option.some.inj hf
  exact zr_iret C (by decide +kernel) T
theorem y_M_count : zY yX11_count cX11_count 5 (some .int) 1 := ⟨q_1449, q_90, by decide +kernel, by decide +kernel, by decide +kernel⟩
theorem k_M_count {l : Launch} {d : zD} {F : zF} {h : Nat → Nat} {σ : zS} {lv : List (Option Value)} {pc : Nat} {own : String} {cc : ByteArray} {nL fr lo idx : Nat} {rest : List Value} {β : Type} {kf : Int32 → zS → Option β} {o2 : β} {p1 : Int32} (pc' : Nat) (C : zOk d F own cc nL fr lo) (hd : decode cc pc = .ok (.invokevirtual idx, 3)) (hp : pc + 3 = pc') (hq : Cond.methodLink own idx yX11_count ∈ zW) (hm : 6 + 1 ≤ fr ∧ 8 + (5 + 11) + 140 ≤ lo) (hr : (rest.map fun v => v.category).sum ≤ 8) (hf : zbd (f_M_count p1 σ) kf = some o2) (K : ∀ (r : Int32) (σ' : zS), kf r σ' = some o2 → V l d F 0 0 (MW d h σ') lv pc' (.int r :: rest)) : V l d F 0 0 (MW d h σ) lv pc (.int p1 :: .ref (h 0) :: rest) := by
  obtain ⟨q, h1, h2⟩ := zbd_some hf
  exact zr_callV y_M_count ⟨q_1447, q_1448⟩ 0 rfl rfl (As := [.int p1]) (m_M_count h1) rfl rfl pc' C hd hp hq hm hr (K _ _ h2)
/-! StepsBeyondModel.image()I -/
def f_M_image_65b (k65 : Int32 → zS → Option (Int32 × zS)) (x1 : Int32) (σ : zS) : Option (Int32 × zS) :=
  (if 8 ≤ x1 then
  some (σ.1 0, σ)
  else
  zin x1 8 (zin x1 8 (zlt (zsa σ 18 x1 (σ.2 11 x1.toNatClampNeg)) fun σ1 =>
  k65 (x1 + 1) σ1)))
set_option maxRecDepth 4000 in
theorem w_M_image_65b {l : Launch} {d : zD} {F : zF} {h : Nat → Nat} {out : Int32 × zS} {k65 : Int32 → zS → Option (Int32 × zS)} (C : zOk d F RX11 cX11_image 2 0 0) (T : zRt d F (some .int) (some (.int out.1)) (MW d h out.2)) (H65 : ∀ (x1 : Int32) (σ : zS), k65 x1 σ = some out → V l d F 0 0 (MW d h σ) [some (.ref (h 0)), some (.int x1)] 65 []) (x1 : Int32) (σ : zS) (hf : f_M_image_65b k65 x1 σ = some out) : V l d F 0 0 (MW d h σ) [some (.ref (h 0)), some (.int x1)] 65 [] := by
  unfold f_M_image_65b at hf
  refine zr_iload_n 1 66 C (by decide +kernel) rfl rfl ?_
  refine zr_bipush (v := 8) 8 68 C (by decide +kernel) rfl rfl ?_
  refine zr_icmp_ge (off := 21) 89 71 C (by decide +kernel) (by decide) rfl hf (fun hf => ?_) (fun hf => ?_)
  · refine zr_aload_n 0 90 C (by decide +kernel) rfl rfl ?_
    refine mg_0_0 (idx := 143) 93 C (by decide +kernel) rfl q_991 ?_
    obtain rfl := Option.some.inj hf
    exact zr_iret C (by decide +kernel) T
  · refine zr_aload_n 0 72 C (by decide +kernel) rfl rfl ?_
    refine mg_0_31 (idx := 65) 75 C (by decide +kernel) rfl q_1022 ?_
    refine zr_iload_n 1 76 C (by decide +kernel) rfl rfl ?_
    refine zr_aload_n 0 77 C (by decide +kernel) rfl rfl ?_
    refine mg_0_15 (idx := 40) 80 C (by decide +kernel) rfl q_1006 ?_
    refine zr_iload_n 1 81 C (by decide +kernel) rfl rfl ?_
    refine ml_11 82 C (by decide +kernel) rfl hf (fun hf => ?_)
    refine ms_18 83 C (by decide +kernel) rfl hf (fun σ1 hf => ?_)
    refine zr_iinc (j := 1) 1 [some (.ref (h 0)), some (.int (x1 + 1))] 86 C (by decide +kernel) rfl rfl rfl (by decide) rfl rfl ?_
    refine zr_goto (off := -21) 65 C (by decide +kernel) (by decide) ?_
    exact H65 _ _ hf
def f_M_image_65  : Nat → Int32 → zS → Option (Int32 × zS)
  | 0, _, _ => none
  | n + 1, x1,  σ => f_M_image_65b (fun x1 σ => f_M_image_65  n x1 σ) x1 σ
theorem w_M_image_65 {l : Launch} {d : zD} {F : zF} {h : Nat → Nat} {out : Int32 × zS}  (C : zOk d F RX11 cX11_image 2 0 0) (T : zRt d F (some .int) (some (.int out.1)) (MW d h out.2))  : ∀ (n : Nat) (x1 : Int32) (σ : zS), f_M_image_65  n x1 σ = some out → V l d F 0 0 (MW d h σ) [some (.ref (h 0)), some (.int x1)] 65 [] := by
  intro n
  induction n with
  | zero =>
    intro x1 σ hf
    cases hf
  | succ n ih =>
    intro x1 σ hf
    exact w_M_image_65b C T ih x1 σ hf
def f_M_image_39b (k39 : Int32 → zS → Option (Int32 × zS)) (x1 : Int32) (σ : zS) : Option (Int32 × zS) :=
  (if 20 ≤ x1 then
  f_M_image_65 zfu 0 σ
  else
  zin x1 20 (zin x1 20 (zlt (zsa σ 17 x1 (σ.2 2 x1.toNatClampNeg)) fun σ1 =>
  k39 (x1 + 1) σ1)))
set_option maxRecDepth 4000 in
theorem w_M_image_39b {l : Launch} {d : zD} {F : zF} {h : Nat → Nat} {out : Int32 × zS} {k39 : Int32 → zS → Option (Int32 × zS)} (C : zOk d F RX11 cX11_image 2 0 0) (T : zRt d F (some .int) (some (.int out.1)) (MW d h out.2)) (H39 : ∀ (x1 : Int32) (σ : zS), k39 x1 σ = some out → V l d F 0 0 (MW d h σ) [some (.ref (h 0)), some (.int x1)] 39 []) (x1 : Int32) (σ : zS) (hf : f_M_image_39b k39 x1 σ = some out) : V l d F 0 0 (MW d h σ) [some (.ref (h 0)), some (.int x1)] 39 [] := by
  unfold f_M_image_39b at hf
  refine zr_iload_n 1 40 C (by decide +kernel) rfl rfl ?_
  refine zr_bipush (v := 20) 20 42 C (by decide +kernel) rfl rfl ?_
  refine zr_icmp_ge (off := 21) 63 45 C (by decide +kernel) (by decide) rfl hf (fun hf => ?_) (fun hf => ?_)
  · refine zr_iconst (v := 0) 0 64 C (by decide +kernel) rfl rfl ?_
    refine zr_istore_n 1 [some (.ref (h 0)), some (.int 0)] 65 C (by decide +kernel) rfl (by decide) rfl rfl ?_
    exact w_M_image_65 C T zfu _ _ hf
  · refine zr_aload_n 0 46 C (by decide +kernel) rfl rfl ?_
    refine mg_0_30 (idx := 62) 49 C (by decide +kernel) rfl q_1021 ?_
    refine zr_iload_n 1 50 C (by decide +kernel) rfl rfl ?_
    refine zr_aload_n 0 51 C (by decide +kernel) rfl rfl ?_
    refine mg_0_2 (idx := 13) 54 C (by decide +kernel) rfl q_993 ?_
    refine zr_iload_n 1 55 C (by decide +kernel) rfl rfl ?_
    refine ml_2 56 C (by decide +kernel) rfl hf (fun hf => ?_)
    refine ms_17 57 C (by decide +kernel) rfl hf (fun σ1 hf => ?_)
    refine zr_iinc (j := 1) 1 [some (.ref (h 0)), some (.int (x1 + 1))] 60 C (by decide +kernel) rfl rfl rfl (by decide) rfl rfl ?_
    refine zr_goto (off := -21) 39 C (by decide +kernel) (by decide) ?_
    exact H39 _ _ hf
def f_M_image_39  : Nat → Int32 → zS → Option (Int32 × zS)
  | 0, _, _ => none
  | n + 1, x1,  σ => f_M_image_39b (fun x1 σ => f_M_image_39  n x1 σ) x1 σ
theorem w_M_image_39 {l : Launch} {d : zD} {F : zF} {h : Nat → Nat} {out : Int32 × zS}  (C : zOk d F RX11 cX11_image 2 0 0) (T : zRt d F (some .int) (some (.int out.1)) (MW d h out.2))  : ∀ (n : Nat) (x1 : Int32) (σ : zS), f_M_image_39  n x1 σ = some out → V l d F 0 0 (MW d h σ) [some (.ref (h 0)), some (.int x1)] 39 [] := by
  intro n
  induction n with
  | zero =>
    intro x1 σ hf
    cases hf
  | succ n ih =>
    intro x1 σ hf
    exact w_M_image_39b C T ih x1 σ hf
def f_M_image  (σ : zS) : Option (Int32 × zS) :=
  zlt (zsg σ 25 1) fun σ1 =>
  zlt (zsg σ1 26 (σ1.1 0)) fun σ2 =>
  zlt (zsg σ2 27 (σ2.1 14)) fun σ3 =>
  zlt (zsg σ3 28 (σ3.1 7)) fun σ4 =>
  zlt (zsg σ4 29 (σ4.1 24)) fun σ5 =>
  f_M_image_39 zfu 0 σ5
set_option maxRecDepth 4000 in
theorem m_M_image {l : Launch} {d : zD} {h : Nat → Nat} {out : Int32 × zS} {σ : zS}  (hf : f_M_image  σ = some out) : zM l yX11_image cX11_image 2 (some .int) 0 0 d [.ref (h 0)] (MW d h σ) (MW d h out.2) (some (.int out.1)) := by
  refine zM_of [some (.ref (h 0)), none] (by decide +kernel) rfl (Nat.le_of_ble_eq_true rfl) (fun F C T => ?_)
  unfold f_M_image at hf
  refine zr_aload_n 0 1 C (by decide +kernel) rfl rfl ?_
  refine zr_iconst (v := 1) 1 2 C (by decide +kernel) rfl rfl ?_
  refine mp_0_25 (idx := 346) 5 C (by decide +kernel) rfl q_1016 rfl hf (fun σ1 hf => ?_)
  refine zr_aload_n 0 6 C (by decide +kernel) rfl rfl ?_
  refine zr_aload_n 0 7 C (by decide +kernel) rfl rfl ?_
  refine mg_0_0 (idx := 143) 10 C (by decide +kernel) rfl q_991 ?_
  refine mp_0_26 (idx := 350) 13 C (by decide +kernel) rfl q_1017 hf (fun σ2 hf => ?_)
  refine zr_aload_n 0 14 C (by decide +kernel) rfl rfl ?_
  refine zr_aload_n 0 15 C (by decide +kernel) rfl rfl ?_
  refine mg_0_14 (idx := 328) 18 C (by decide +kernel) rfl q_1005 ?_
  refine mp_0_27 (idx := 353) 21 C (by decide +kernel) rfl q_1018 hf (fun σ3 hf => ?_)
  refine zr_aload_n 0 22 C (by decide +kernel) rfl rfl ?_
  refine zr_aload_n 0 23 C (by decide +kernel) rfl rfl ?_
  refine mg_0_7 (idx := 260) 26 C (by decide +kernel) rfl q_998 ?_
  refine mp_0_28 (idx := 356) 29 C (by decide +kernel) rfl q_1019 hf (fun σ4 hf => ?_)
  refine zr_aload_n 0 30 C (by decide +kernel) rfl rfl ?_
  refine zr_aload_n 0 31 C (by decide +kernel) rfl rfl ?_
  refine mg_0_24 (idx := 218) 34 C (by decide +kernel) rfl q_1015 ?_
  refine mp_0_29 (idx := 359) 37 C (by decide +kernel) rfl q_1020 hf (fun σ5 hf => ?_)
  refine zr_iconst (v := 0) 0 38 C (by decide +kernel) rfl rfl ?_
  refine zr_istore_n 1 [some (.ref (h 0)), some (.int 0)] 39 C (by decide +kernel) rfl (by decide) rfl rfl ?_
  exact w_M_image_39 C T zfu _ _ hf
theorem y_M_image : zY yX11_image cX11_image 2 (some .int) 0 := ⟨q_1453, q_90, by decide +kernel, by decide +kernel, by decide +kernel⟩
theorem k_M_image {l : Launch} {d : zD} {F : zF} {h : Nat → Nat} {σ : zS} {lv : List (Option Value)} {pc : Nat} {own : String} {cc : ByteArray} {nL fr lo idx : Nat} {rest : List Value} {β : Type} {kf : Int32 → zS → Option β} {o2 : β}  (pc' : Nat) (C : zOk d F own cc nL fr lo) (hd : decode cc pc = .ok (.invokevirtual idx, 3)) (hp : pc + 3 = pc') (hq : Cond.methodLink own idx yX11_image ∈ zW) (hm : 0 + 1 ≤ fr ∧ 8 + (2 + 11) + 0 ≤ lo) (hr : (rest.map fun v => v.category).sum ≤ 8) (hf : zbd (f_M_image  σ) kf = some o2) (K : ∀ (r : Int32) (σ' : zS), kf r σ' = some o2 → V l d F 0 0 (MW d h σ') lv pc' (.int r :: rest)) : V l d F 0 0 (MW d h σ) lv pc (.ref (h 0) :: rest) := by
  obtain ⟨q, h1, h2⟩ := zbd_some hf
  exact zr_callV y_M_image ⟨q_1451, q_1452⟩ 0 rfl rfl (As := []) (m_M_image h1) rfl rfl pc' C hd hp hq hm hr (K _ _ h2)
/-! StepsBeyondModel.back()I -/
def f_M_back_56b (k56 : Int32 → zS → Option (Int32 × zS)) (x1 : Int32) (σ : zS) : Option (Int32 × zS) :=
  (if (σ.1 27) ≤ x1 then
  some (σ.1 0, σ)
  else
  zin x1 8 (zin x1 8 (zlt (zsa σ 11 x1 (σ.2 18 x1.toNatClampNeg)) fun σ1 =>
  k56 (x1 + 1) σ1)))
set_option maxRecDepth 4000 in
theorem w_M_back_56b {l : Launch} {d : zD} {F : zF} {h : Nat → Nat} {out : Int32 × zS} {k56 : Int32 → zS → Option (Int32 × zS)} (C : zOk d F RX11 cX11_back 2 0 0) (T : zRt d F (some .int) (some (.int out.1)) (MW d h out.2)) (H56 : ∀ (x1 : Int32) (σ : zS), k56 x1 σ = some out → V l d F 0 0 (MW d h σ) [some (.ref (h 0)), some (.int x1)] 56 []) (x1 : Int32) (σ : zS) (hf : f_M_back_56b k56 x1 σ = some out) : V l d F 0 0 (MW d h σ) [some (.ref (h 0)), some (.int x1)] 56 [] := by
  unfold f_M_back_56b at hf
  refine zr_iload_n 1 57 C (by decide +kernel) rfl rfl ?_
  refine zr_aload_n 0 58 C (by decide +kernel) rfl rfl ?_
  refine mg_0_27 (idx := 353) 61 C (by decide +kernel) rfl q_1018 ?_
  refine zr_icmp_ge (off := 21) 82 64 C (by decide +kernel) (by decide) rfl hf (fun hf => ?_) (fun hf => ?_)
  · refine zr_aload_n 0 83 C (by decide +kernel) rfl rfl ?_
    refine mg_0_0 (idx := 143) 86 C (by decide +kernel) rfl q_991 ?_
    obtain rfl := Option.some.inj hf
    exact zr_iret C (by decide +kernel) T
  · refine zr_aload_n 0 65 C (by decide +kernel) rfl rfl ?_
    refine mg_0_15 (idx := 40) 68 C (by decide +kernel) rfl q_1006 ?_
    refine zr_iload_n 1 69 C (by decide +kernel) rfl rfl ?_
    refine zr_aload_n 0 70 C (by decide +kernel) rfl rfl ?_
    refine mg_0_31 (idx := 65) 73 C (by decide +kernel) rfl q_1022 ?_
    refine zr_iload_n 1 74 C (by decide +kernel) rfl rfl ?_
    refine ml_18 75 C (by decide +kernel) rfl hf (fun hf => ?_)
    refine ms_11 76 C (by decide +kernel) rfl hf (fun σ1 hf => ?_)
    refine zr_iinc (j := 1) 1 [some (.ref (h 0)), some (.int (x1 + 1))] 79 C (by decide +kernel) rfl rfl rfl (by decide) rfl rfl ?_
    refine zr_goto (off := -23) 56 C (by decide +kernel) (by decide) ?_
    exact H56 _ _ hf
def f_M_back_56  : Nat → Int32 → zS → Option (Int32 × zS)
  | 0, _, _ => none
  | n + 1, x1,  σ => f_M_back_56b (fun x1 σ => f_M_back_56  n x1 σ) x1 σ
theorem w_M_back_56 {l : Launch} {d : zD} {F : zF} {h : Nat → Nat} {out : Int32 × zS}  (C : zOk d F RX11 cX11_back 2 0 0) (T : zRt d F (some .int) (some (.int out.1)) (MW d h out.2))  : ∀ (n : Nat) (x1 : Int32) (σ : zS), f_M_back_56  n x1 σ = some out → V l d F 0 0 (MW d h σ) [some (.ref (h 0)), some (.int x1)] 56 [] := by
  intro n
  induction n with
  | zero =>
    intro x1 σ hf
    cases hf
  | succ n ih =>
    intro x1 σ hf
    exact w_M_back_56b C T ih x1 σ hf
def f_M_back_28b (k28 : Int32 → zS → Option (Int32 × zS)) (x1 : Int32) (σ : zS) : Option (Int32 × zS) :=
  (if (σ.1 26) ≤ x1 then
  f_M_back_56 zfu 0 σ
  else
  zin x1 20 (zin x1 20 (zlt (zsa σ 2 x1 (σ.2 17 x1.toNatClampNeg)) fun σ1 =>
  k28 (x1 + 1) σ1)))
set_option maxRecDepth 4000 in
theorem w_M_back_28b {l : Launch} {d : zD} {F : zF} {h : Nat → Nat} {out : Int32 × zS} {k28 : Int32 → zS → Option (Int32 × zS)} (C : zOk d F RX11 cX11_back 2 0 0) (T : zRt d F (some .int) (some (.int out.1)) (MW d h out.2)) (H28 : ∀ (x1 : Int32) (σ : zS), k28 x1 σ = some out → V l d F 0 0 (MW d h σ) [some (.ref (h 0)), some (.int x1)] 28 []) (x1 : Int32) (σ : zS) (hf : f_M_back_28b k28 x1 σ = some out) : V l d F 0 0 (MW d h σ) [some (.ref (h 0)), some (.int x1)] 28 [] := by
  unfold f_M_back_28b at hf
  refine zr_iload_n 1 29 C (by decide +kernel) rfl rfl ?_
  refine zr_aload_n 0 30 C (by decide +kernel) rfl rfl ?_
  refine mg_0_26 (idx := 350) 33 C (by decide +kernel) rfl q_1017 ?_
  refine zr_icmp_ge (off := 21) 54 36 C (by decide +kernel) (by decide) rfl hf (fun hf => ?_) (fun hf => ?_)
  · refine zr_iconst (v := 0) 0 55 C (by decide +kernel) rfl rfl ?_
    refine zr_istore_n 1 [some (.ref (h 0)), some (.int 0)] 56 C (by decide +kernel) rfl (by decide) rfl rfl ?_
    exact w_M_back_56 C T zfu _ _ hf
  · refine zr_aload_n 0 37 C (by decide +kernel) rfl rfl ?_
    refine mg_0_2 (idx := 13) 40 C (by decide +kernel) rfl q_993 ?_
    refine zr_iload_n 1 41 C (by decide +kernel) rfl rfl ?_
    refine zr_aload_n 0 42 C (by decide +kernel) rfl rfl ?_
    refine mg_0_30 (idx := 62) 45 C (by decide +kernel) rfl q_1021 ?_
    refine zr_iload_n 1 46 C (by decide +kernel) rfl rfl ?_
    refine ml_17 47 C (by decide +kernel) rfl hf (fun hf => ?_)
    refine ms_2 48 C (by decide +kernel) rfl hf (fun σ1 hf => ?_)
    refine zr_iinc (j := 1) 1 [some (.ref (h 0)), some (.int (x1 + 1))] 51 C (by decide +kernel) rfl rfl rfl (by decide) rfl rfl ?_
    refine zr_goto (off := -23) 28 C (by decide +kernel) (by decide) ?_
    exact H28 _ _ hf
def f_M_back_28  : Nat → Int32 → zS → Option (Int32 × zS)
  | 0, _, _ => none
  | n + 1, x1,  σ => f_M_back_28b (fun x1 σ => f_M_back_28  n x1 σ) x1 σ
theorem w_M_back_28 {l : Launch} {d : zD} {F : zF} {h : Nat → Nat} {out : Int32 × zS}  (C : zOk d F RX11 cX11_back 2 0 0) (T : zRt d F (some .int) (some (.int out.1)) (MW d h out.2))  : ∀ (n : Nat) (x1 : Int32) (σ : zS), f_M_back_28  n x1 σ = some out → V l d F 0 0 (MW d h σ) [some (.ref (h 0)), some (.int x1)] 28 [] := by
  intro n
  induction n with
  | zero =>
    intro x1 σ hf
    cases hf
  | succ n ih =>
    intro x1 σ hf
    exact w_M_back_28b C T ih x1 σ hf
def f_M_back  (σ : zS) : Option (Int32 × zS) :=
  (if (σ.1 25) = 0 then
  some (-3, σ)
  else
  zlt (zsg σ 7 (σ.1 28)) fun σ1 =>
  zlt (zsg σ1 24 (σ1.1 29)) fun σ2 =>
  f_M_back_28 zfu 0 σ2)
set_option maxRecDepth 4000 in
theorem m_M_back {l : Launch} {d : zD} {h : Nat → Nat} {out : Int32 × zS} {σ : zS}  (hf : f_M_back  σ = some out) : zM l yX11_back cX11_back 2 (some .int) 0 0 d [.ref (h 0)] (MW d h σ) (MW d h out.2) (some (.int out.1)) := by
  refine zM_of [some (.ref (h 0)), none] (by decide +kernel) rfl (Nat.le_of_ble_eq_true rfl) (fun F C T => ?_)
  unfold f_M_back at hf
  refine zr_aload_n 0 1 C (by decide +kernel) rfl rfl ?_
  refine mg_0_25 (idx := 346) 4 C (by decide +kernel) rfl q_1016 ?_
  refine zr_if_ne (off := 6) 10 7 C (by decide +kernel) (by decide) rfl hf (fun hf => ?_) (fun hf => ?_)
  · refine zr_aload_n 0 11 C (by decide +kernel) rfl rfl ?_
    refine zr_aload_n 0 12 C (by decide +kernel) rfl rfl ?_
    refine mg_0_28 (idx := 356) 15 C (by decide +kernel) rfl q_1019 ?_
    refine mp_0_7 (idx := 260) 18 C (by decide +kernel) rfl q_998 hf (fun σ1 hf => ?_)
    refine zr_aload_n 0 19 C (by decide +kernel) rfl rfl ?_
    refine zr_aload_n 0 20 C (by decide +kernel) rfl rfl ?_
    refine mg_0_29 (idx := 359) 23 C (by decide +kernel) rfl q_1020 ?_
    refine mp_0_24 (idx := 218) 26 C (by decide +kernel) rfl q_1015 hf (fun σ2 hf => ?_)
    refine zr_iconst (v := 0) 0 27 C (by decide +kernel) rfl rfl ?_
    refine zr_istore_n 1 [some (.ref (h 0)), some (.int 0)] 28 C (by decide +kernel) rfl (by decide) rfl rfl ?_
    exact w_M_back_28 C T zfu _ _ hf
  · refine zr_bipush (v := (-3)) (-3) 9 C (by decide +kernel) rfl rfl ?_
    obtain rfl := Option.some.inj hf
    exact zr_iret C (by decide +kernel) T
theorem y_M_back : zY yX11_back cX11_back 2 (some .int) 0 := ⟨q_1457, q_90, by decide +kernel, by decide +kernel, by decide +kernel⟩
theorem k_M_back {l : Launch} {d : zD} {F : zF} {h : Nat → Nat} {σ : zS} {lv : List (Option Value)} {pc : Nat} {own : String} {cc : ByteArray} {nL fr lo idx : Nat} {rest : List Value} {β : Type} {kf : Int32 → zS → Option β} {o2 : β}  (pc' : Nat) (C : zOk d F own cc nL fr lo) (hd : decode cc pc = .ok (.invokevirtual idx, 3)) (hp : pc + 3 = pc') (hq : Cond.methodLink own idx yX11_back ∈ zW) (hm : 0 + 1 ≤ fr ∧ 8 + (2 + 11) + 0 ≤ lo) (hr : (rest.map fun v => v.category).sum ≤ 8) (hf : zbd (f_M_back  σ) kf = some o2) (K : ∀ (r : Int32) (σ' : zS), kf r σ' = some o2 → V l d F 0 0 (MW d h σ') lv pc' (.int r :: rest)) : V l d F 0 0 (MW d h σ) lv pc (.ref (h 0) :: rest) := by
  obtain ⟨q, h1, h2⟩ := zbd_some hf
  exact zr_callV y_M_back ⟨q_1455, q_1456⟩ 0 rfl rfl (As := []) (m_M_back h1) rfl rfl pc' C hd hp hq hm hr (K _ _ h2)
/-! StepsBeyondModel.sheet(III)I -/
def f_M_sheet_70b (k70 : Int32 → Int32 → zS → Option (Int32 × zS)) (x1 : Int32) (x4 : Int32) (σ : zS) : Option (Int32 × zS) :=
  (if 40 ≤ x4 then
  some (1, σ)
  else
  zin ((40 * x1) + x4) 160 (zlt (zsa σ 21 ((40 * x1) + x4) 0) fun σ1 =>
  k70 x1 (x4 + 1) σ1))
set_option maxRecDepth 4000 in
theorem w_M_sheet_70b {l : Launch} {d : zD} {F : zF} {h : Nat → Nat} {out : Int32 × zS} {k70 : Int32 → Int32 → zS → Option (Int32 × zS)} (C : zOk d F RX11 cX11_sheet 5 1 22) (T : zRt d F (some .int) (some (.int out.1)) (MW d h out.2)) (H70 : ∀ (x1 : Int32) (x4 : Int32) (σ : zS), k70 x1 x4 σ = some out → V l d F 0 0 (MW d h σ) [some (.ref (h 0)), some (.int x1), none, none, some (.int x4)] 70 []) (x1 : Int32) (x4 : Int32) (σ : zS) (hf : f_M_sheet_70b k70 x1 x4 σ = some out) : V l d F 0 0 (MW d h σ) [some (.ref (h 0)), some (.int x1), none, none, some (.int x4)] 70 [] := by
  unfold f_M_sheet_70b at hf
  refine zr_iload 4 72 C (by decide +kernel) rfl rfl ?_
  refine zr_bipush (v := 40) 40 74 C (by decide +kernel) rfl rfl ?_
  refine zr_icmp_ge (off := 22) 96 77 C (by decide +kernel) (by decide) rfl hf (fun hf => ?_) (fun hf => ?_)
  · refine zr_iconst (v := 1) 1 97 C (by decide +kernel) rfl rfl ?_
    obtain rfl := Option.some.inj hf
    exact zr_iret C (by decide +kernel) T
  · refine zr_aload_n 0 78 C (by decide +kernel) rfl rfl ?_
    refine mg_0_34 (idx := 74) 81 C (by decide +kernel) rfl q_1025 ?_
    refine zr_bipush (v := 40) 40 83 C (by decide +kernel) rfl rfl ?_
    refine zr_iload_n 1 84 C (by decide +kernel) rfl rfl ?_
    refine zr_imul 85 C (by decide +kernel) rfl ?_
    refine zr_iload 4 87 C (by decide +kernel) rfl rfl ?_
    refine zr_iadd 88 C (by decide +kernel) rfl ?_
    refine zr_iconst (v := 0) 0 89 C (by decide +kernel) rfl rfl ?_
    refine ms_21 90 C (by decide +kernel) rfl hf (fun σ1 hf => ?_)
    refine zr_iinc (j := 1) 4 [some (.ref (h 0)), some (.int x1), none, none, some (.int (x4 + 1))] 93 C (by decide +kernel) rfl rfl rfl (by decide) rfl rfl ?_
    refine zr_goto (off := -23) 70 C (by decide +kernel) (by decide) ?_
    exact H70 _ _ _ hf
def f_M_sheet_70  : Nat → Int32 → Int32 → zS → Option (Int32 × zS)
  | 0, _, _, _ => none
  | n + 1, x1, x4,  σ => f_M_sheet_70b (fun x1 x4 σ => f_M_sheet_70  n x1 x4 σ) x1 x4 σ
theorem w_M_sheet_70 {l : Launch} {d : zD} {F : zF} {h : Nat → Nat} {out : Int32 × zS}  (C : zOk d F RX11 cX11_sheet 5 1 22) (T : zRt d F (some .int) (some (.int out.1)) (MW d h out.2))  : ∀ (n : Nat) (x1 : Int32) (x4 : Int32) (σ : zS), f_M_sheet_70  n x1 x4 σ = some out → V l d F 0 0 (MW d h σ) [some (.ref (h 0)), some (.int x1), none, none, some (.int x4)] 70 [] := by
  intro n
  induction n with
  | zero =>
    intro x1 x4 σ hf
    cases hf
  | succ n ih =>
    intro x1 x4 σ hf
    exact w_M_sheet_70b C T ih x1 x4 σ hf
def f_M_sheet_66  (x1 : Int32) (y1 : Int32) (y2 : Int32) (σ : zS) : Option (Int32 × zS) :=
  zin y1 4 (zlt (zsa σ 20 y1 y2) fun σ1 =>
  f_M_sheet_70 zfu x1 0 σ1)
set_option maxRecDepth 4000 in
theorem w_M_sheet_66 {l : Launch} {d : zD} {F : zF} {h : Nat → Nat} {out : Int32 × zS}  (C : zOk d F RX11 cX11_sheet 5 1 22) (T : zRt d F (some .int) (some (.int out.1)) (MW d h out.2))  (x1 : Int32) (y1 : Int32) (y2 : Int32) (σ : zS) (hf : f_M_sheet_66  x1 y1 y2 σ = some out) : V l d F 0 0 (MW d h σ) [some (.ref (h 0)), some (.int x1), none, none, none] 66 [.int y2, .int y1, .ref (h 20)] := by
  unfold f_M_sheet_66 at hf
  refine ms_20 67 C (by decide +kernel) rfl hf (fun σ1 hf => ?_)
  refine zr_iconst (v := 0) 0 68 C (by decide +kernel) rfl rfl ?_
  refine zr_istore 4 [some (.ref (h 0)), some (.int x1), none, none, some (.int 0)] 70 C (by decide +kernel) rfl (by decide) rfl rfl ?_
  exact w_M_sheet_70 C T zfu _ _ _ hf
def f_M_sheet_44  (x1 : Int32) (x2 : Int32) (x3 : Int32) (σ : zS) : Option (Int32 × zS) :=
  zin x1 4 (zlt (zsa σ 19 x1 x2) fun σ1 =>
  (if x2 = (-1) then
  f_M_sheet_66 x1 x1 0 σ1
  else
  f_M_sheet_66 x1 x1 x3 σ1))
set_option maxRecDepth 4000 in
theorem w_M_sheet_44 {l : Launch} {d : zD} {F : zF} {h : Nat → Nat} {out : Int32 × zS}  (C : zOk d F RX11 cX11_sheet 5 1 22) (T : zRt d F (some .int) (some (.int out.1)) (MW d h out.2))  (x1 : Int32) (x2 : Int32) (x3 : Int32) (σ : zS) (hf : f_M_sheet_44  x1 x2 x3 σ = some out) : V l d F 0 0 (MW d h σ) [some (.ref (h 0)), some (.int x1), some (.int x2), some (.int x3), none] 44 [] := by
  unfold f_M_sheet_44 at hf
  refine zr_aload_n 0 45 C (by decide +kernel) rfl rfl ?_
  refine mg_0_32 (idx := 68) 48 C (by decide +kernel) rfl q_1023 ?_
  refine zr_iload_n 1 49 C (by decide +kernel) rfl rfl ?_
  refine zr_iload_n 2 50 C (by decide +kernel) rfl rfl ?_
  refine ms_19 51 C (by decide +kernel) rfl hf (fun σ1 hf => ?_)
  refine zr_aload_n 0 52 C (by decide +kernel) rfl rfl ?_
  refine mg_0_33 (idx := 71) 55 C (by decide +kernel) rfl q_1024 ?_
  refine zr_iload_n 1 56 C (by decide +kernel) rfl rfl ?_
  refine zr_iload_n 2 57 C (by decide +kernel) rfl rfl ?_
  refine zr_iconst (v := (-1)) (-1) 58 C (by decide +kernel) rfl rfl ?_
  refine zr_icmp_ne (off := 7) 65 61 C (by decide +kernel) (by decide) rfl hf (fun hf => ?_) (fun hf => ?_)
  · refine zr_iload_n 3 66 C (by decide +kernel) rfl rfl ?_
    refine zr_less (zA (zA (zN (zN (zN zE))))) ?_
    exact w_M_sheet_66 C T _ _ _ _ hf
  · refine zr_iconst (v := 0) 0 62 C (by decide +kernel) rfl rfl ?_
    refine zr_goto (off := 4) 66 C (by decide +kernel) (by decide) ?_
    refine zr_less (zA (zA (zN (zN (zN zE))))) ?_
    exact w_M_sheet_66 C T _ _ _ _ hf
def f_M_sheet_32  (x1 : Int32) (x2 : Int32) (x3 : Int32) (σ : zS) : Option (Int32 × zS) :=
  (if x2 = (-1) then
  f_M_sheet_44 x1 x2 x3 σ
  else
  (if 0 ≤ x3 then
  f_M_sheet_44 x1 x2 x3 σ
  else
  some (-14, σ)))
set_option maxRecDepth 4000 in
theorem w_M_sheet_32 {l : Launch} {d : zD} {F : zF} {h : Nat → Nat} {out : Int32 × zS}  (C : zOk d F RX11 cX11_sheet 5 1 22) (T : zRt d F (some .int) (some (.int out.1)) (MW d h out.2))  (x1 : Int32) (x2 : Int32) (x3 : Int32) (σ : zS) (hf : f_M_sheet_32  x1 x2 x3 σ = some out) : V l d F 0 0 (MW d h σ) [some (.ref (h 0)), some (.int x1), some (.int x2), some (.int x3), none] 32 [] := by
  unfold f_M_sheet_32 at hf
  refine zr_iload_n 2 33 C (by decide +kernel) rfl rfl ?_
  refine zr_iconst (v := (-1)) (-1) 34 C (by decide +kernel) rfl rfl ?_
  refine zr_icmp_eq (off := 10) 44 37 C (by decide +kernel) (by decide) rfl hf (fun hf => ?_) (fun hf => ?_)
  · exact w_M_sheet_44 C T _ _ _ _ hf
  · refine zr_iload_n 3 38 C (by decide +kernel) rfl rfl ?_
    refine zr_if_ge (off := 6) 44 41 C (by decide +kernel) (by decide) rfl hf (fun hf => ?_) (fun hf => ?_)
    · exact w_M_sheet_44 C T _ _ _ _ hf
    · refine zr_bipush (v := (-14)) (-14) 43 C (by decide +kernel) rfl rfl ?_
      obtain rfl := Option.some.inj hf
      exact zr_iret C (by decide +kernel) T
def f_M_sheet (p1 : Int32) (p2 : Int32) (p3 : Int32) (σ : zS) : Option (Int32 × zS) :=
  zbd (f_M_in p1 0 3 σ) fun r2 σ1 =>
  (if r2 = 0 then
  some (-2, σ1)
  else
  zbd (f_M_in p2 (-1) 2 σ1) fun r4 σ3 =>
  (if r4 = 0 then
  some (-2, σ3)
  else
  (if p2 = (-1) then
  f_M_sheet_32 p1 p2 p3 σ3
  else
  (if p3 ≤ 40 then
  f_M_sheet_32 p1 p2 p3 σ3
  else
  some (-2, σ3)))))
set_option maxRecDepth 4000 in
theorem m_M_sheet {l : Launch} {d : zD} {h : Nat → Nat} {out : Int32 × zS} {σ : zS} {p1 : Int32} {p2 : Int32} {p3 : Int32} (hf : f_M_sheet p1 p2 p3 σ = some out) : zM l yX11_sheet cX11_sheet 5 (some .int) 1 22 d [.ref (h 0), .int p1, .int p2, .int p3] (MW d h σ) (MW d h out.2) (some (.int out.1)) := by
  refine zM_of [some (.ref (h 0)), some (.int p1), some (.int p2), some (.int p3), none] (by decide +kernel) rfl (Nat.le_of_ble_eq_true rfl) (fun F C T => ?_)
  unfold f_M_sheet at hf
  refine zr_iload_n 1 1 C (by decide +kernel) rfl rfl ?_
  refine zr_iconst (v := 0) 0 2 C (by decide +kernel) rfl rfl ?_
  refine zr_iconst (v := 3) 3 3 C (by decide +kernel) rfl rfl ?_
  refine k_M_in (idx := 139) 6 C (by decide +kernel) rfl q_1181 (zb2 rfl rfl) (Nat.le_of_ble_eq_true rfl) hf (fun r2 σ1 hf => ?_)
  refine zr_if_eq (off := 23) 29 9 C (by decide +kernel) (by decide) rfl hf (fun hf => ?_) (fun hf => ?_)
  · refine zr_bipush (v := (-2)) (-2) 31 C (by decide +kernel) rfl rfl ?_
    obtain rfl := Option.some.inj hf
    exact zr_iret C (by decide +kernel) T
  · refine zr_iload_n 2 10 C (by decide +kernel) rfl rfl ?_
    refine zr_iconst (v := (-1)) (-1) 11 C (by decide +kernel) rfl rfl ?_
    refine zr_iconst (v := 2) 2 12 C (by decide +kernel) rfl rfl ?_
    refine k_M_in (idx := 139) 15 C (by decide +kernel) rfl q_1181 (zb2 rfl rfl) (Nat.le_of_ble_eq_true rfl) hf (fun r4 σ3 hf => ?_)
    refine zr_if_eq (off := 14) 29 18 C (by decide +kernel) (by decide) rfl hf (fun hf => ?_) (fun hf => ?_)
    · refine zr_bipush (v := (-2)) (-2) 31 C (by decide +kernel) rfl rfl ?_
      obtain rfl := Option.some.inj hf
      exact zr_iret C (by decide +kernel) T
    · refine zr_iload_n 2 19 C (by decide +kernel) rfl rfl ?_
      refine zr_iconst (v := (-1)) (-1) 20 C (by decide +kernel) rfl rfl ?_
      refine zr_icmp_eq (off := 12) 32 23 C (by decide +kernel) (by decide) rfl hf (fun hf => ?_) (fun hf => ?_)
      · exact w_M_sheet_32 C T _ _ _ _ hf
      · refine zr_iload_n 3 24 C (by decide +kernel) rfl rfl ?_
        refine zr_bipush (v := 40) 40 26 C (by decide +kernel) rfl rfl ?_
        refine zr_icmp_le (off := 6) 32 29 C (by decide +kernel) (by decide) rfl hf (fun hf => ?_) (fun hf => ?_)
        · exact w_M_sheet_32 C T _ _ _ _ hf
        · refine zr_bipush (v := (-2)) (-2) 31 C (by decide +kernel) rfl rfl ?_
          obtain rfl := Option.some.inj hf
          exact zr_iret C (by decide +kernel) T
theorem y_M_sheet : zY yX11_sheet cX11_sheet 5 (some .int) 3 := ⟨q_1461, q_90, by decide +kernel, by decide +kernel, by decide +kernel⟩
theorem k_M_sheet {l : Launch} {d : zD} {F : zF} {h : Nat → Nat} {σ : zS} {lv : List (Option Value)} {pc : Nat} {own : String} {cc : ByteArray} {nL fr lo idx : Nat} {rest : List Value} {β : Type} {kf : Int32 → zS → Option β} {o2 : β} {p1 : Int32} {p2 : Int32} {p3 : Int32} (pc' : Nat) (C : zOk d F own cc nL fr lo) (hd : decode cc pc = .ok (.invokevirtual idx, 3)) (hp : pc + 3 = pc') (hq : Cond.methodLink own idx yX11_sheet ∈ zW) (hm : 1 + 1 ≤ fr ∧ 8 + (5 + 11) + 22 ≤ lo) (hr : (rest.map fun v => v.category).sum ≤ 8) (hf : zbd (f_M_sheet p1 p2 p3 σ) kf = some o2) (K : ∀ (r : Int32) (σ' : zS), kf r σ' = some o2 → V l d F 0 0 (MW d h σ') lv pc' (.int r :: rest)) : V l d F 0 0 (MW d h σ) lv pc (.int p3 :: .int p2 :: .int p1 :: .ref (h 0) :: rest) := by
  obtain ⟨q, h1, h2⟩ := zbd_some hf
  exact zr_callV y_M_sheet ⟨q_1459, q_1460⟩ 0 rfl rfl (As := [.int p1, .int p2, .int p3]) (m_M_sheet h1) rfl rfl pc' C hd hp hq hm hr (K _ _ h2)
/-! StepsBeyondModel.cell(III)I -/
def f_M_cell_84  (y1 : Int32) (y2 : Int32) (σ : zS) : Option (Int32 × zS) :=
  zin y1 160 (zlt (zsa σ 21 y1 y2) fun σ1 =>
  some (1, σ1))
set_option maxRecDepth 4000 in
theorem w_M_cell_84 {l : Launch} {d : zD} {F : zF} {h : Nat → Nat} {out : Int32 × zS}  (C : zOk d F RX11 cX11_cell 4 1 22) (T : zRt d F (some .int) (some (.int out.1)) (MW d h out.2))  (y1 : Int32) (y2 : Int32) (σ : zS) (hf : f_M_cell_84  y1 y2 σ = some out) : V l d F 0 0 (MW d h σ) [none, none, none, none] 84 [.int y2, .int y1, .ref (h 21)] := by
  unfold f_M_cell_84 at hf
  refine ms_21 85 C (by decide +kernel) rfl hf (fun σ1 hf => ?_)
  refine zr_iconst (v := 1) 1 86 C (by decide +kernel) rfl rfl ?_
  obtain rfl := Option.some.inj hf
  exact zr_iret C (by decide +kernel) T
def f_M_cell (p1 : Int32) (p2 : Int32) (p3 : Int32) (σ : zS) : Option (Int32 × zS) :=
  zbd (f_M_in p1 0 3 σ) fun r2 σ1 =>
  (if r2 = 0 then
  some (-2, σ1)
  else
  zin p1 4 ((if (σ1.2 19 p1.toNatClampNeg) = (-1) then
  some (-11, σ1)
  else
  zin p1 4 (zbd (f_M_in p2 0 ((σ1.2 20 p1.toNatClampNeg) - 1) σ1) fun r4 σ3 =>
  (if r4 = 0 then
  some (-12, σ3)
  else
  zin p1 4 ((if (σ3.2 19 p1.toNatClampNeg) = 0 then
  f_M_cell_84 ((40 * p1) + p2) p3.toInt8.toInt32 σ3
  else
  zin p1 4 ((if (σ3.2 19 p1.toNatClampNeg) = 1 then
  f_M_cell_84 ((40 * p1) + p2) p3.toInt16.toInt32 σ3
  else
  f_M_cell_84 ((40 * p1) + p2) p3 σ3)))))))))
set_option maxRecDepth 4000 in
theorem m_M_cell {l : Launch} {d : zD} {h : Nat → Nat} {out : Int32 × zS} {σ : zS} {p1 : Int32} {p2 : Int32} {p3 : Int32} (hf : f_M_cell p1 p2 p3 σ = some out) : zM l yX11_cell cX11_cell 4 (some .int) 1 22 d [.ref (h 0), .int p1, .int p2, .int p3] (MW d h σ) (MW d h out.2) (some (.int out.1)) := by
  refine zM_of [some (.ref (h 0)), some (.int p1), some (.int p2), some (.int p3)] (by decide +kernel) rfl (Nat.le_of_ble_eq_true rfl) (fun F C T => ?_)
  unfold f_M_cell at hf
  refine zr_iload_n 1 1 C (by decide +kernel) rfl rfl ?_
  refine zr_iconst (v := 0) 0 2 C (by decide +kernel) rfl rfl ?_
  refine zr_iconst (v := 3) 3 3 C (by decide +kernel) rfl rfl ?_
  refine k_M_in (idx := 139) 6 C (by decide +kernel) rfl q_1181 (zb2 rfl rfl) (Nat.le_of_ble_eq_true rfl) hf (fun r2 σ1 hf => ?_)
  refine zr_if_ne (off := 6) 12 9 C (by decide +kernel) (by decide) rfl hf (fun hf => ?_) (fun hf => ?_)
  · refine zr_aload_n 0 13 C (by decide +kernel) rfl rfl ?_
    refine mg_0_32 (idx := 68) 16 C (by decide +kernel) rfl q_1023 ?_
    refine zr_iload_n 1 17 C (by decide +kernel) rfl rfl ?_
    refine ml_19 18 C (by decide +kernel) rfl hf (fun hf => ?_)
    refine zr_iconst (v := (-1)) (-1) 19 C (by decide +kernel) rfl rfl ?_
    refine zr_icmp_ne (off := 6) 25 22 C (by decide +kernel) (by decide) rfl hf (fun hf => ?_) (fun hf => ?_)
    · refine zr_iload_n 2 26 C (by decide +kernel) rfl rfl ?_
      refine zr_iconst (v := 0) 0 27 C (by decide +kernel) rfl rfl ?_
      refine zr_aload_n 0 28 C (by decide +kernel) rfl rfl ?_
      refine mg_0_33 (idx := 71) 31 C (by decide +kernel) rfl q_1024 ?_
      refine zr_iload_n 1 32 C (by decide +kernel) rfl rfl ?_
      refine ml_20 33 C (by decide +kernel) rfl hf (fun hf => ?_)
      refine zr_iconst (v := 1) 1 34 C (by decide +kernel) rfl rfl ?_
      refine zr_isub 35 C (by decide +kernel) rfl ?_
      refine k_M_in (idx := 139) 38 C (by decide +kernel) rfl q_1181 (zb2 rfl rfl) (Nat.le_of_ble_eq_true rfl) hf (fun r4 σ3 hf => ?_)
      refine zr_if_ne (off := 6) 44 41 C (by decide +kernel) (by decide) rfl hf (fun hf => ?_) (fun hf => ?_)
      · refine zr_aload_n 0 45 C (by decide +kernel) rfl rfl ?_
        refine mg_0_34 (idx := 74) 48 C (by decide +kernel) rfl q_1025 ?_
        refine zr_bipush (v := 40) 40 50 C (by decide +kernel) rfl rfl ?_
        refine zr_iload_n 1 51 C (by decide +kernel) rfl rfl ?_
        refine zr_imul 52 C (by decide +kernel) rfl ?_
        refine zr_iload_n 2 53 C (by decide +kernel) rfl rfl ?_
        refine zr_iadd 54 C (by decide +kernel) rfl ?_
        refine zr_aload_n 0 55 C (by decide +kernel) rfl rfl ?_
        refine mg_0_32 (idx := 68) 58 C (by decide +kernel) rfl q_1023 ?_
        refine zr_iload_n 1 59 C (by decide +kernel) rfl rfl ?_
        refine ml_19 60 C (by decide +kernel) rfl hf (fun hf => ?_)
        refine zr_if_ne (off := 8) 68 63 C (by decide +kernel) (by decide) rfl hf (fun hf => ?_) (fun hf => ?_)
        · refine zr_aload_n 0 69 C (by decide +kernel) rfl rfl ?_
          refine mg_0_32 (idx := 68) 72 C (by decide +kernel) rfl q_1023 ?_
          refine zr_iload_n 1 73 C (by decide +kernel) rfl rfl ?_
          refine ml_19 74 C (by decide +kernel) rfl hf (fun hf => ?_)
          refine zr_iconst (v := 1) 1 75 C (by decide +kernel) rfl rfl ?_
          refine zr_icmp_ne (off := 8) 83 78 C (by decide +kernel) (by decide) rfl hf (fun hf => ?_) (fun hf => ?_)
          · refine zr_iload_n 3 84 C (by decide +kernel) rfl rfl ?_
            refine zr_less (zN (zN (zN (zN zE)))) ?_
            exact w_M_cell_84 C T _ _ _ hf
          · refine zr_iload_n 3 79 C (by decide +kernel) rfl rfl ?_
            refine zr_i2s 80 C (by decide +kernel) rfl ?_
            refine zr_goto (off := 4) 84 C (by decide +kernel) (by decide) ?_
            refine zr_less (zN (zN (zN (zN zE)))) ?_
            exact w_M_cell_84 C T _ _ _ hf
        · refine zr_iload_n 3 64 C (by decide +kernel) rfl rfl ?_
          refine zr_i2b 65 C (by decide +kernel) rfl ?_
          refine zr_goto (off := 19) 84 C (by decide +kernel) (by decide) ?_
          refine zr_less (zN (zN (zN (zN zE)))) ?_
          exact w_M_cell_84 C T _ _ _ hf
      · refine zr_bipush (v := (-12)) (-12) 43 C (by decide +kernel) rfl rfl ?_
        obtain rfl := Option.some.inj hf
        exact zr_iret C (by decide +kernel) T
    · refine zr_bipush (v := (-11)) (-11) 24 C (by decide +kernel) rfl rfl ?_
      obtain rfl := Option.some.inj hf
      exact zr_iret C (by decide +kernel) T
  · refine zr_bipush (v := (-2)) (-2) 11 C (by decide +kernel) rfl rfl ?_
    obtain rfl := Option.some.inj hf
    exact zr_iret C (by decide +kernel) T
theorem y_M_cell : zY yX11_cell cX11_cell 4 (some .int) 3 := ⟨q_1465, q_90, by decide +kernel, by decide +kernel, by decide +kernel⟩
theorem k_M_cell {l : Launch} {d : zD} {F : zF} {h : Nat → Nat} {σ : zS} {lv : List (Option Value)} {pc : Nat} {own : String} {cc : ByteArray} {nL fr lo idx : Nat} {rest : List Value} {β : Type} {kf : Int32 → zS → Option β} {o2 : β} {p1 : Int32} {p2 : Int32} {p3 : Int32} (pc' : Nat) (C : zOk d F own cc nL fr lo) (hd : decode cc pc = .ok (.invokevirtual idx, 3)) (hp : pc + 3 = pc') (hq : Cond.methodLink own idx yX11_cell ∈ zW) (hm : 1 + 1 ≤ fr ∧ 8 + (4 + 11) + 22 ≤ lo) (hr : (rest.map fun v => v.category).sum ≤ 8) (hf : zbd (f_M_cell p1 p2 p3 σ) kf = some o2) (K : ∀ (r : Int32) (σ' : zS), kf r σ' = some o2 → V l d F 0 0 (MW d h σ') lv pc' (.int r :: rest)) : V l d F 0 0 (MW d h σ) lv pc (.int p3 :: .int p2 :: .int p1 :: .ref (h 0) :: rest) := by
  obtain ⟨q, h1, h2⟩ := zbd_some hf
  exact zr_callV y_M_cell ⟨q_1463, q_1464⟩ 0 rfl rfl (As := [.int p1, .int p2, .int p3]) (m_M_cell h1) rfl rfl pc' C hd hp hq hm hr (K _ _ h2)
/-! StepsBeyondModel.copy(IIIII)I -/
def f_M_copy_173 (k147 : Int32 → Int32 → Int32 → Int32 → zS → Option (Int32 × zS)) (x5 : Int32) (x6 : Int32) (x7 : Int32) (x8 : Int32) (y0 : Int32) (σ : zS) : Option (Int32 × zS) :=
  zin (x6 + y0) 160 (zin (x7 + y0) 160 (zlt (zsa σ 21 (x7 + y0) (σ.2 21 (x6 + y0).toNatClampNeg)) fun σ1 =>
  k147 x5 x6 x7 (x8 + 1) σ1))
set_option maxRecDepth 4000 in
theorem w_M_copy_173 {l : Launch} {d : zD} {F : zF} {h : Nat → Nat} {out : Int32 × zS} {k147 : Int32 → Int32 → Int32 → Int32 → zS → Option (Int32 × zS)} (C : zOk d F RX11 cX11_copy 10 1 22) (T : zRt d F (some .int) (some (.int out.1)) (MW d h out.2)) (H147 : ∀ (x5 : Int32) (x6 : Int32) (x7 : Int32) (x8 : Int32) (σ : zS), k147 x5 x6 x7 x8 σ = some out → V l d F 0 0 (MW d h σ) [some (.ref (h 0)), none, none, none, none, some (.int x5), some (.int x6), some (.int x7), some (.int x8), none] 147 []) (x5 : Int32) (x6 : Int32) (x7 : Int32) (x8 : Int32) (y0 : Int32) (σ : zS) (hf : f_M_copy_173 k147 x5 x6 x7 x8 y0 σ = some out) : V l d F 0 0 (MW d h σ) [some (.ref (h 0)), none, none, none, none, some (.int x5), some (.int x6), some (.int x7), some (.int x8), none] 173 [.int y0] := by
  unfold f_M_copy_173 at hf
  refine zr_istore 9 [some (.ref (h 0)), none, none, none, none, some (.int x5), some (.int x6), some (.int x7), some (.int x8), some (.int y0)] 175 C (by decide +kernel) rfl (by decide) rfl rfl ?_
  refine zr_aload_n 0 176 C (by decide +kernel) rfl rfl ?_
  refine mg_0_34 (idx := 74) 179 C (by decide +kernel) rfl q_1025 ?_
  refine zr_iload 7 181 C (by decide +kernel) rfl rfl ?_
  refine zr_iload 9 183 C (by decide +kernel) rfl rfl ?_
  refine zr_iadd 184 C (by decide +kernel) rfl ?_
  refine zr_aload_n 0 185 C (by decide +kernel) rfl rfl ?_
  refine mg_0_34 (idx := 74) 188 C (by decide +kernel) rfl q_1025 ?_
  refine zr_iload 6 190 C (by decide +kernel) rfl rfl ?_
  refine zr_iload 9 192 C (by decide +kernel) rfl rfl ?_
  refine zr_iadd 193 C (by decide +kernel) rfl ?_
  refine ml_21 194 C (by decide +kernel) rfl hf (fun hf => ?_)
  refine ms_21 195 C (by decide +kernel) rfl hf (fun σ1 hf => ?_)
  refine zr_iinc (j := 1) 8 [some (.ref (h 0)), none, none, none, none, some (.int x5), some (.int x6), some (.int x7), some (.int (x8 + 1)), some (.int y0)] 198 C (by decide +kernel) rfl rfl rfl (by decide) rfl rfl ?_
  refine zr_goto (off := -51) 147 C (by decide +kernel) (by decide) ?_
  refine zr_less (zA (zN (zN (zN (zN (zA (zA (zA (zA (zN zE)))))))))) ?_
  exact H147 _ _ _ _ _ hf
def f_M_copy_147b (k147 : Int32 → Int32 → Int32 → Int32 → zS → Option (Int32 × zS)) (x5 : Int32) (x6 : Int32) (x7 : Int32) (x8 : Int32) (σ : zS) : Option (Int32 × zS) :=
  (if x5 ≤ x8 then
  some (x5, σ)
  else
  (if x7 ≤ x6 then
  f_M_copy_173 k147 x5 x6 x7 x8 x8 σ
  else
  f_M_copy_173 k147 x5 x6 x7 x8 ((x5 - 1) - x8) σ))
set_option maxRecDepth 4000 in
theorem w_M_copy_147b {l : Launch} {d : zD} {F : zF} {h : Nat → Nat} {out : Int32 × zS} {k147 : Int32 → Int32 → Int32 → Int32 → zS → Option (Int32 × zS)} (C : zOk d F RX11 cX11_copy 10 1 22) (T : zRt d F (some .int) (some (.int out.1)) (MW d h out.2)) (H147 : ∀ (x5 : Int32) (x6 : Int32) (x7 : Int32) (x8 : Int32) (σ : zS), k147 x5 x6 x7 x8 σ = some out → V l d F 0 0 (MW d h σ) [some (.ref (h 0)), none, none, none, none, some (.int x5), some (.int x6), some (.int x7), some (.int x8), none] 147 []) (x5 : Int32) (x6 : Int32) (x7 : Int32) (x8 : Int32) (σ : zS) (hf : f_M_copy_147b k147 x5 x6 x7 x8 σ = some out) : V l d F 0 0 (MW d h σ) [some (.ref (h 0)), none, none, none, none, some (.int x5), some (.int x6), some (.int x7), some (.int x8), none] 147 [] := by
  unfold f_M_copy_147b at hf
  refine zr_iload 8 149 C (by decide +kernel) rfl rfl ?_
  refine zr_iload 5 151 C (by decide +kernel) rfl rfl ?_
  refine zr_icmp_ge (off := 50) 201 154 C (by decide +kernel) (by decide) rfl hf (fun hf => ?_) (fun hf => ?_)
  · refine zr_iload 5 203 C (by decide +kernel) rfl rfl ?_
    obtain rfl := Option.some.inj hf
    exact zr_iret C (by decide +kernel) T
  · refine zr_iload 6 156 C (by decide +kernel) rfl rfl ?_
    refine zr_iload 7 158 C (by decide +kernel) rfl rfl ?_
    refine zr_icmp_ge (off := 13) 171 161 C (by decide +kernel) (by decide) rfl hf (fun hf => ?_) (fun hf => ?_)
    · refine zr_iload 8 173 C (by decide +kernel) rfl rfl ?_
      exact w_M_copy_173 C T H147 _ _ _ _ _ _ hf
    · refine zr_iload 5 163 C (by decide +kernel) rfl rfl ?_
      refine zr_iconst (v := 1) 1 164 C (by decide +kernel) rfl rfl ?_
      refine zr_isub 165 C (by decide +kernel) rfl ?_
      refine zr_iload 8 167 C (by decide +kernel) rfl rfl ?_
      refine zr_isub 168 C (by decide +kernel) rfl ?_
      refine zr_goto (off := 5) 173 C (by decide +kernel) (by decide) ?_
      exact w_M_copy_173 C T H147 _ _ _ _ _ _ hf
def f_M_copy_147  : Nat → Int32 → Int32 → Int32 → Int32 → zS → Option (Int32 × zS)
  | 0, _, _, _, _, _ => none
  | n + 1, x5, x6, x7, x8,  σ => f_M_copy_147b (fun x5 x6 x7 x8 σ => f_M_copy_147  n x5 x6 x7 x8 σ) x5 x6 x7 x8 σ
theorem w_M_copy_147 {l : Launch} {d : zD} {F : zF} {h : Nat → Nat} {out : Int32 × zS}  (C : zOk d F RX11 cX11_copy 10 1 22) (T : zRt d F (some .int) (some (.int out.1)) (MW d h out.2))  : ∀ (n : Nat) (x5 : Int32) (x6 : Int32) (x7 : Int32) (x8 : Int32) (σ : zS), f_M_copy_147  n x5 x6 x7 x8 σ = some out → V l d F 0 0 (MW d h σ) [some (.ref (h 0)), none, none, none, none, some (.int x5), some (.int x6), some (.int x7), some (.int x8), none] 147 [] := by
  intro n
  induction n with
  | zero =>
    intro x5 x6 x7 x8 σ hf
    cases hf
  | succ n ih =>
    intro x5 x6 x7 x8 σ hf
    exact w_M_copy_147b C T ih x5 x6 x7 x8 σ hf
def f_M_copy (p1 : Int32) (p2 : Int32) (p3 : Int32) (p4 : Int32) (p5 : Int32) (σ : zS) : Option (Int32 × zS) :=
  zbd (f_M_in p1 0 3 σ) fun r2 σ1 =>
  (if r2 = 0 then
  some (-2, σ1)
  else
  zbd (f_M_in p3 0 3 σ1) fun r4 σ3 =>
  (if r4 = 0 then
  some (-2, σ3)
  else
  zin p1 4 ((if (σ3.2 19 p1.toNatClampNeg) = (-1) then
  some (-11, σ3)
  else
  zin p3 4 ((if (σ3.2 19 p3.toNatClampNeg) = (-1) then
  some (-11, σ3)
  else
  zin p1 4 (zin p3 4 ((if (σ3.2 19 p1.toNatClampNeg) = (σ3.2 19 p3.toNatClampNeg) then
  (if p5 < 0 then
  some (-12, σ3)
  else
  (if p2 < 0 then
  some (-12, σ3)
  else
  (if p4 < 0 then
  some (-12, σ3)
  else
  zin p1 4 ((if (σ3.2 20 p1.toNatClampNeg) < p2 then
  some (-12, σ3)
  else
  zin p3 4 ((if (σ3.2 20 p3.toNatClampNeg) < p4 then
  some (-12, σ3)
  else
  zin p1 4 ((if ((σ3.2 20 p1.toNatClampNeg) - p2) < p5 then
  some (-12, σ3)
  else
  zin p3 4 ((if p5 ≤ ((σ3.2 20 p3.toNatClampNeg) - p4) then
  zlt ((40 * p1) + p2) fun v5 => 
  zlt ((40 * p3) + p4) fun v6 => 
  f_M_copy_147 zfu p5 v5 v6 0 σ3
  else
  some (-12, σ3))))))))))))
  else
  some (-13, σ3))))))))))
set_option maxRecDepth 4000 in
theorem m_M_copy {l : Launch} {d : zD} {h : Nat → Nat} {out : Int32 × zS} {σ : zS} {p1 : Int32} {p2 : Int32} {p3 : Int32} {p4 : Int32} {p5 : Int32} (hf : f_M_copy p1 p2 p3 p4 p5 σ = some out) : zM l yX11_copy cX11_copy 10 (some .int) 1 22 d [.ref (h 0), .int p1, .int p2, .int p3, .int p4, .int p5] (MW d h σ) (MW d h out.2) (some (.int out.1)) := by
  refine zM_of [some (.ref (h 0)), some (.int p1), some (.int p2), some (.int p3), some (.int p4), some (.int p5), none, none, none, none] (by decide +kernel) rfl (Nat.le_of_ble_eq_true rfl) (fun F C T => ?_)
  unfold f_M_copy at hf
  refine zr_iload_n 1 1 C (by decide +kernel) rfl rfl ?_
  refine zr_iconst (v := 0) 0 2 C (by decide +kernel) rfl rfl ?_
  refine zr_iconst (v := 3) 3 3 C (by decide +kernel) rfl rfl ?_
  refine k_M_in (idx := 139) 6 C (by decide +kernel) rfl q_1181 (zb2 rfl rfl) (Nat.le_of_ble_eq_true rfl) hf (fun r2 σ1 hf => ?_)
  refine zr_if_eq (off := 12) 18 9 C (by decide +kernel) (by decide) rfl hf (fun hf => ?_) (fun hf => ?_)
  · refine zr_bipush (v := (-2)) (-2) 20 C (by decide +kernel) rfl rfl ?_
    obtain rfl := Option.some.inj hf
    exact zr_iret C (by decide +kernel) T
  · refine zr_iload_n 3 10 C (by decide +kernel) rfl rfl ?_
    refine zr_iconst (v := 0) 0 11 C (by decide +kernel) rfl rfl ?_
    refine zr_iconst (v := 3) 3 12 C (by decide +kernel) rfl rfl ?_
    refine k_M_in (idx := 139) 15 C (by decide +kernel) rfl q_1181 (zb2 rfl rfl) (Nat.le_of_ble_eq_true rfl) hf (fun r4 σ3 hf => ?_)
    refine zr_if_ne (off := 6) 21 18 C (by decide +kernel) (by decide) rfl hf (fun hf => ?_) (fun hf => ?_)
    · refine zr_aload_n 0 22 C (by decide +kernel) rfl rfl ?_
      refine mg_0_32 (idx := 68) 25 C (by decide +kernel) rfl q_1023 ?_
      refine zr_iload_n 1 26 C (by decide +kernel) rfl rfl ?_
      refine ml_19 27 C (by decide +kernel) rfl hf (fun hf => ?_)
      refine zr_iconst (v := (-1)) (-1) 28 C (by decide +kernel) rfl rfl ?_
      refine zr_icmp_eq (off := 13) 41 31 C (by decide +kernel) (by decide) rfl hf (fun hf => ?_) (fun hf => ?_)
      · refine zr_bipush (v := (-11)) (-11) 43 C (by decide +kernel) rfl rfl ?_
        obtain rfl := Option.some.inj hf
        exact zr_iret C (by decide +kernel) T
      · refine zr_aload_n 0 32 C (by decide +kernel) rfl rfl ?_
        refine mg_0_32 (idx := 68) 35 C (by decide +kernel) rfl q_1023 ?_
        refine zr_iload_n 3 36 C (by decide +kernel) rfl rfl ?_
        refine ml_19 37 C (by decide +kernel) rfl hf (fun hf => ?_)
        refine zr_iconst (v := (-1)) (-1) 38 C (by decide +kernel) rfl rfl ?_
        refine zr_icmp_ne (off := 6) 44 41 C (by decide +kernel) (by decide) rfl hf (fun hf => ?_) (fun hf => ?_)
        · refine zr_aload_n 0 45 C (by decide +kernel) rfl rfl ?_
          refine mg_0_32 (idx := 68) 48 C (by decide +kernel) rfl q_1023 ?_
          refine zr_iload_n 1 49 C (by decide +kernel) rfl rfl ?_
          refine ml_19 50 C (by decide +kernel) rfl hf (fun hf => ?_)
          refine zr_aload_n 0 51 C (by decide +kernel) rfl rfl ?_
          refine mg_0_32 (idx := 68) 54 C (by decide +kernel) rfl q_1023 ?_
          refine zr_iload_n 3 55 C (by decide +kernel) rfl rfl ?_
          refine ml_19 56 C (by decide +kernel) rfl hf (fun hf => ?_)
          refine zr_icmp_eq (off := 6) 62 59 C (by decide +kernel) (by decide) rfl hf (fun hf => ?_) (fun hf => ?_)
          · refine zr_iload 5 64 C (by decide +kernel) rfl rfl ?_
            refine zr_if_lt (off := 60) 124 67 C (by decide +kernel) (by decide) rfl hf (fun hf => ?_) (fun hf => ?_)
            · refine zr_bipush (v := (-12)) (-12) 126 C (by decide +kernel) rfl rfl ?_
              obtain rfl := Option.some.inj hf
              exact zr_iret C (by decide +kernel) T
            · refine zr_iload_n 2 68 C (by decide +kernel) rfl rfl ?_
              refine zr_if_lt (off := 56) 124 71 C (by decide +kernel) (by decide) rfl hf (fun hf => ?_) (fun hf => ?_)
              · refine zr_bipush (v := (-12)) (-12) 126 C (by decide +kernel) rfl rfl ?_
                obtain rfl := Option.some.inj hf
                exact zr_iret C (by decide +kernel) T
              · refine zr_iload 4 73 C (by decide +kernel) rfl rfl ?_
                refine zr_if_lt (off := 51) 124 76 C (by decide +kernel) (by decide) rfl hf (fun hf => ?_) (fun hf => ?_)
                · refine zr_bipush (v := (-12)) (-12) 126 C (by decide +kernel) rfl rfl ?_
                  obtain rfl := Option.some.inj hf
                  exact zr_iret C (by decide +kernel) T
                · refine zr_iload_n 2 77 C (by decide +kernel) rfl rfl ?_
                  refine zr_aload_n 0 78 C (by decide +kernel) rfl rfl ?_
                  refine mg_0_33 (idx := 71) 81 C (by decide +kernel) rfl q_1024 ?_
                  refine zr_iload_n 1 82 C (by decide +kernel) rfl rfl ?_
                  refine ml_20 83 C (by decide +kernel) rfl hf (fun hf => ?_)
                  refine zr_icmp_gt (off := 41) 124 86 C (by decide +kernel) (by decide) rfl hf (fun hf => ?_) (fun hf => ?_)
                  · refine zr_bipush (v := (-12)) (-12) 126 C (by decide +kernel) rfl rfl ?_
                    obtain rfl := Option.some.inj hf
                    exact zr_iret C (by decide +kernel) T
                  · refine zr_iload 4 88 C (by decide +kernel) rfl rfl ?_
                    refine zr_aload_n 0 89 C (by decide +kernel) rfl rfl ?_
                    refine mg_0_33 (idx := 71) 92 C (by decide +kernel) rfl q_1024 ?_
                    refine zr_iload_n 3 93 C (by decide +kernel) rfl rfl ?_
                    refine ml_20 94 C (by decide +kernel) rfl hf (fun hf => ?_)
                    refine zr_icmp_gt (off := 30) 124 97 C (by decide +kernel) (by decide) rfl hf (fun hf => ?_) (fun hf => ?_)
                    · refine zr_bipush (v := (-12)) (-12) 126 C (by decide +kernel) rfl rfl ?_
                      obtain rfl := Option.some.inj hf
                      exact zr_iret C (by decide +kernel) T
                    · refine zr_iload 5 99 C (by decide +kernel) rfl rfl ?_
                      refine zr_aload_n 0 100 C (by decide +kernel) rfl rfl ?_
                      refine mg_0_33 (idx := 71) 103 C (by decide +kernel) rfl q_1024 ?_
                      refine zr_iload_n 1 104 C (by decide +kernel) rfl rfl ?_
                      refine ml_20 105 C (by decide +kernel) rfl hf (fun hf => ?_)
                      refine zr_iload_n 2 106 C (by decide +kernel) rfl rfl ?_
                      refine zr_isub 107 C (by decide +kernel) rfl ?_
                      refine zr_icmp_gt (off := 17) 124 110 C (by decide +kernel) (by decide) rfl hf (fun hf => ?_) (fun hf => ?_)
                      · refine zr_bipush (v := (-12)) (-12) 126 C (by decide +kernel) rfl rfl ?_
                        obtain rfl := Option.some.inj hf
                        exact zr_iret C (by decide +kernel) T
                      · refine zr_iload 5 112 C (by decide +kernel) rfl rfl ?_
                        refine zr_aload_n 0 113 C (by decide +kernel) rfl rfl ?_
                        refine mg_0_33 (idx := 71) 116 C (by decide +kernel) rfl q_1024 ?_
                        refine zr_iload_n 3 117 C (by decide +kernel) rfl rfl ?_
                        refine ml_20 118 C (by decide +kernel) rfl hf (fun hf => ?_)
                        refine zr_iload 4 120 C (by decide +kernel) rfl rfl ?_
                        refine zr_isub 121 C (by decide +kernel) rfl ?_
                        refine zr_icmp_le (off := 6) 127 124 C (by decide +kernel) (by decide) rfl hf (fun hf => ?_) (fun hf => ?_)
                        · refine zr_bipush (v := 40) 40 129 C (by decide +kernel) rfl rfl ?_
                          refine zr_iload_n 1 130 C (by decide +kernel) rfl rfl ?_
                          refine zr_imul 131 C (by decide +kernel) rfl ?_
                          refine zr_iload_n 2 132 C (by decide +kernel) rfl rfl ?_
                          refine zr_iadd 133 C (by decide +kernel) rfl ?_
                          refine zr_name hf (fun v5 hf => ?_)
                          refine zr_istore 6 [some (.ref (h 0)), some (.int p1), some (.int p2), some (.int p3), some (.int p4), some (.int p5), some (.int v5), none, none, none] 135 C (by decide +kernel) rfl (by decide) rfl rfl ?_
                          refine zr_bipush (v := 40) 40 137 C (by decide +kernel) rfl rfl ?_
                          refine zr_iload_n 3 138 C (by decide +kernel) rfl rfl ?_
                          refine zr_imul 139 C (by decide +kernel) rfl ?_
                          refine zr_iload 4 141 C (by decide +kernel) rfl rfl ?_
                          refine zr_iadd 142 C (by decide +kernel) rfl ?_
                          refine zr_name hf (fun v6 hf => ?_)
                          refine zr_istore 7 [some (.ref (h 0)), some (.int p1), some (.int p2), some (.int p3), some (.int p4), some (.int p5), some (.int v5), some (.int v6), none, none] 144 C (by decide +kernel) rfl (by decide) rfl rfl ?_
                          refine zr_iconst (v := 0) 0 145 C (by decide +kernel) rfl rfl ?_
                          refine zr_istore 8 [some (.ref (h 0)), some (.int p1), some (.int p2), some (.int p3), some (.int p4), some (.int p5), some (.int v5), some (.int v6), some (.int 0), none] 147 C (by decide +kernel) rfl (by decide) rfl rfl ?_
                          refine zr_less (zA (zN (zN (zN (zN (zA (zA (zA (zA (zN zE)))))))))) ?_
                          exact w_M_copy_147 C T zfu _ _ _ _ _ hf
                        · refine zr_bipush (v := (-12)) (-12) 126 C (by decide +kernel) rfl rfl ?_
                          obtain rfl := Option.some.inj hf
                          exact zr_iret C (by decide +kernel) T
          · refine zr_bipush (v := (-13)) (-13) 61 C (by decide +kernel) rfl rfl ?_
            obtain rfl := Option.some.inj hf
            exact zr_iret C (by decide +kernel) T
        · refine zr_bipush (v := (-11)) (-11) 43 C (by decide +kernel) rfl rfl ?_
          obtain rfl := Option.some.inj hf
          exact zr_iret C (by decide +kernel) T
    · refine zr_bipush (v := (-2)) (-2) 20 C (by decide +kernel) rfl rfl ?_
      obtain rfl := Option.some.inj hf
      exact zr_iret C (by decide +kernel) T
theorem y_M_copy : zY yX11_copy cX11_copy 10 (some .int) 5 := ⟨q_1469, q_90, by decide +kernel, by decide +kernel, by decide +kernel⟩
theorem k_M_copy {l : Launch} {d : zD} {F : zF} {h : Nat → Nat} {σ : zS} {lv : List (Option Value)} {pc : Nat} {own : String} {cc : ByteArray} {nL fr lo idx : Nat} {rest : List Value} {β : Type} {kf : Int32 → zS → Option β} {o2 : β} {p1 : Int32} {p2 : Int32} {p3 : Int32} {p4 : Int32} {p5 : Int32} (pc' : Nat) (C : zOk d F own cc nL fr lo) (hd : decode cc pc = .ok (.invokevirtual idx, 3)) (hp : pc + 3 = pc') (hq : Cond.methodLink own idx yX11_copy ∈ zW) (hm : 1 + 1 ≤ fr ∧ 8 + (10 + 11) + 22 ≤ lo) (hr : (rest.map fun v => v.category).sum ≤ 8) (hf : zbd (f_M_copy p1 p2 p3 p4 p5 σ) kf = some o2) (K : ∀ (r : Int32) (σ' : zS), kf r σ' = some o2 → V l d F 0 0 (MW d h σ') lv pc' (.int r :: rest)) : V l d F 0 0 (MW d h σ) lv pc (.int p5 :: .int p4 :: .int p3 :: .int p2 :: .int p1 :: .ref (h 0) :: rest) := by
  obtain ⟨q, h1, h2⟩ := zbd_some hf
  exact zr_callV y_M_copy ⟨q_1467, q_1468⟩ 0 rfl rfl (As := [.int p1, .int p2, .int p3, .int p4, .int p5]) (m_M_copy h1) rfl rfl pc' C hd hp hq hm hr (K _ _ h2)
/-! StepsBeyondModel.houses(IIII)I -/
def f_M_houses_144 (k64 : Int32 → Int32 → Int32 → Int32 → Int32 → zS → Option (Int32 × zS)) (x1 : Int32) (x3 : Int32) (x4 : Int32) (x6 : Int32) (y0 : Int32) (y1 : Int32) (σ : zS) : Option (Int32 × zS) :=
  zlt (y0 + y1) fun v1 => 
  k64 x1 x3 x4 v1 (x6 + 1) σ
set_option maxRecDepth 4000 in
theorem w_M_houses_144 {l : Launch} {d : zD} {F : zF} {h : Nat → Nat} {out : Int32 × zS} {k64 : Int32 → Int32 → Int32 → Int32 → Int32 → zS → Option (Int32 × zS)} (C : zOk d F RX11 cX11_houses 9 3 64) (T : zRt d F (some .int) (some (.int out.1)) (MW d h out.2)) (H64 : ∀ (x1 : Int32) (x3 : Int32) (x4 : Int32) (x5 : Int32) (x6 : Int32) (σ : zS), k64 x1 x3 x4 x5 x6 σ = some out → V l d F 0 0 (MW d h σ) [some (.ref (h 0)), some (.int x1), none, some (.int x3), some (.int x4), some (.int x5), some (.int x6), none, none] 64 []) (x1 : Int32) (x3 : Int32) (x4 : Int32) (x6 : Int32) (y0 : Int32) (y1 : Int32) (σ : zS) (hf : f_M_houses_144 k64 x1 x3 x4 x6 y0 y1 σ = some out) : V l d F 0 0 (MW d h σ) [some (.ref (h 0)), some (.int x1), none, some (.int x3), some (.int x4), none, some (.int x6), none, none] 144 [.int y1, .int y0] := by
  unfold f_M_houses_144 at hf
  refine zr_iadd 145 C (by decide +kernel) rfl ?_
  refine zr_name hf (fun v1 hf => ?_)
  refine zr_istore 5 [some (.ref (h 0)), some (.int x1), none, some (.int x3), some (.int x4), some (.int v1), some (.int x6), none, none] 147 C (by decide +kernel) rfl (by decide) rfl rfl ?_
  refine zr_iinc (j := 1) 6 [some (.ref (h 0)), some (.int x1), none, some (.int x3), some (.int x4), some (.int v1), some (.int (x6 + 1)), none, none] 150 C (by decide +kernel) rfl rfl rfl (by decide) rfl rfl ?_
  refine zr_goto (off := -86) 64 C (by decide +kernel) (by decide) ?_
  exact H64 _ _ _ _ _ _ hf
def f_M_houses_64b (k64 : Int32 → Int32 → Int32 → Int32 → Int32 → zS → Option (Int32 × zS)) (x1 : Int32) (x3 : Int32) (x4 : Int32) (x5 : Int32) (x6 : Int32) (σ : zS) : Option (Int32 × zS) :=
  (if x4 ≤ x6 then
  some (x5, σ)
  else
  zlt (x3 + (2 * x6)) fun v1 => 
  (if x3 < 0 then
  some (-12, σ)
  else
  (if v1 < x3 then
  some (-12, σ)
  else
  zin x1 4 ((if v1 ≤ ((σ.2 20 x1.toNatClampNeg) - 2) then
  zlt ((40 * x1) + v1) fun v2 => 
  zin v2 160 (zin (v2 + 1) 160 (zbd (f_M_house (σ.2 21 v2.toNatClampNeg) (σ.2 21 (v2 + 1).toNatClampNeg) σ) fun r4 σ3 =>
  (if r4 < 0 then
  f_M_houses_144 k64 x1 x3 x4 x6 x5 0 σ3
  else
  f_M_houses_144 k64 x1 x3 x4 x6 x5 1 σ3)))
  else
  some (-12, σ))))))
set_option maxRecDepth 4000 in
theorem w_M_houses_64b {l : Launch} {d : zD} {F : zF} {h : Nat → Nat} {out : Int32 × zS} {k64 : Int32 → Int32 → Int32 → Int32 → Int32 → zS → Option (Int32 × zS)} (C : zOk d F RX11 cX11_houses 9 3 64) (T : zRt d F (some .int) (some (.int out.1)) (MW d h out.2)) (H64 : ∀ (x1 : Int32) (x3 : Int32) (x4 : Int32) (x5 : Int32) (x6 : Int32) (σ : zS), k64 x1 x3 x4 x5 x6 σ = some out → V l d F 0 0 (MW d h σ) [some (.ref (h 0)), some (.int x1), none, some (.int x3), some (.int x4), some (.int x5), some (.int x6), none, none] 64 []) (x1 : Int32) (x3 : Int32) (x4 : Int32) (x5 : Int32) (x6 : Int32) (σ : zS) (hf : f_M_houses_64b k64 x1 x3 x4 x5 x6 σ = some out) : V l d F 0 0 (MW d h σ) [some (.ref (h 0)), some (.int x1), none, some (.int x3), some (.int x4), some (.int x5), some (.int x6), none, none] 64 [] := by
  unfold f_M_houses_64b at hf
  refine zr_iload 6 66 C (by decide +kernel) rfl rfl ?_
  refine zr_iload 4 68 C (by decide +kernel) rfl rfl ?_
  refine zr_icmp_ge (off := 85) 153 71 C (by decide +kernel) (by decide) rfl hf (fun hf => ?_) (fun hf => ?_)
  · refine zr_iload 5 155 C (by decide +kernel) rfl rfl ?_
    obtain rfl := Option.some.inj hf
    exact zr_iret C (by decide +kernel) T
  · refine zr_iload_n 3 72 C (by decide +kernel) rfl rfl ?_
    refine zr_iconst (v := 2) 2 73 C (by decide +kernel) rfl rfl ?_
    refine zr_iload 6 75 C (by decide +kernel) rfl rfl ?_
    refine zr_imul 76 C (by decide +kernel) rfl ?_
    refine zr_iadd 77 C (by decide +kernel) rfl ?_
    refine zr_name hf (fun v1 hf => ?_)
    refine zr_istore 7 [some (.ref (h 0)), some (.int x1), none, some (.int x3), some (.int x4), some (.int x5), some (.int x6), some (.int v1), none] 79 C (by decide +kernel) rfl (by decide) rfl rfl ?_
    refine zr_iload_n 3 80 C (by decide +kernel) rfl rfl ?_
    refine zr_if_lt (off := 22) 102 83 C (by decide +kernel) (by decide) rfl hf (fun hf => ?_) (fun hf => ?_)
    · refine zr_bipush (v := (-12)) (-12) 104 C (by decide +kernel) rfl rfl ?_
      obtain rfl := Option.some.inj hf
      exact zr_iret C (by decide +kernel) T
    · refine zr_iload 7 85 C (by decide +kernel) rfl rfl ?_
      refine zr_iload_n 3 86 C (by decide +kernel) rfl rfl ?_
      refine zr_icmp_lt (off := 16) 102 89 C (by decide +kernel) (by decide) rfl hf (fun hf => ?_) (fun hf => ?_)
      · refine zr_bipush (v := (-12)) (-12) 104 C (by decide +kernel) rfl rfl ?_
        obtain rfl := Option.some.inj hf
        exact zr_iret C (by decide +kernel) T
      · refine zr_iload 7 91 C (by decide +kernel) rfl rfl ?_
        refine zr_aload_n 0 92 C (by decide +kernel) rfl rfl ?_
        refine mg_0_33 (idx := 71) 95 C (by decide +kernel) rfl q_1024 ?_
        refine zr_iload_n 1 96 C (by decide +kernel) rfl rfl ?_
        refine ml_20 97 C (by decide +kernel) rfl hf (fun hf => ?_)
        refine zr_iconst (v := 2) 2 98 C (by decide +kernel) rfl rfl ?_
        refine zr_isub 99 C (by decide +kernel) rfl ?_
        refine zr_icmp_le (off := 6) 105 102 C (by decide +kernel) (by decide) rfl hf (fun hf => ?_) (fun hf => ?_)
        · refine zr_bipush (v := 40) 40 107 C (by decide +kernel) rfl rfl ?_
          refine zr_iload_n 1 108 C (by decide +kernel) rfl rfl ?_
          refine zr_imul 109 C (by decide +kernel) rfl ?_
          refine zr_iload 7 111 C (by decide +kernel) rfl rfl ?_
          refine zr_iadd 112 C (by decide +kernel) rfl ?_
          refine zr_name hf (fun v2 hf => ?_)
          refine zr_istore 8 [some (.ref (h 0)), some (.int x1), none, some (.int x3), some (.int x4), some (.int x5), some (.int x6), some (.int v1), some (.int v2)] 114 C (by decide +kernel) rfl (by decide) rfl rfl ?_
          refine zr_iload 5 116 C (by decide +kernel) rfl rfl ?_
          refine zr_aload_n 0 117 C (by decide +kernel) rfl rfl ?_
          refine zr_aload_n 0 118 C (by decide +kernel) rfl rfl ?_
          refine mg_0_34 (idx := 74) 121 C (by decide +kernel) rfl q_1025 ?_
          refine zr_iload 8 123 C (by decide +kernel) rfl rfl ?_
          refine ml_21 124 C (by decide +kernel) rfl hf (fun hf => ?_)
          refine zr_aload_n 0 125 C (by decide +kernel) rfl rfl ?_
          refine mg_0_34 (idx := 74) 128 C (by decide +kernel) rfl q_1025 ?_
          refine zr_iload 8 130 C (by decide +kernel) rfl rfl ?_
          refine zr_iconst (v := 1) 1 131 C (by decide +kernel) rfl rfl ?_
          refine zr_iadd 132 C (by decide +kernel) rfl ?_
          refine ml_21 133 C (by decide +kernel) rfl hf (fun hf => ?_)
          refine k_M_house (idx := 362) 136 C (by decide +kernel) rfl q_1474 (zb2 rfl rfl) (Nat.le_of_ble_eq_true rfl) hf (fun r4 σ3 hf => ?_)
          refine zr_if_lt (off := 7) 143 139 C (by decide +kernel) (by decide) rfl hf (fun hf => ?_) (fun hf => ?_)
          · refine zr_iconst (v := 0) 0 144 C (by decide +kernel) rfl rfl ?_
            refine zr_less (zA (zA (zN (zA (zA (zN (zA (zN (zN zE))))))))) ?_
            exact w_M_houses_144 C T H64 _ _ _ _ _ _ _ hf
          · refine zr_iconst (v := 1) 1 140 C (by decide +kernel) rfl rfl ?_
            refine zr_goto (off := 4) 144 C (by decide +kernel) (by decide) ?_
            refine zr_less (zA (zA (zN (zA (zA (zN (zA (zN (zN zE))))))))) ?_
            exact w_M_houses_144 C T H64 _ _ _ _ _ _ _ hf
        · refine zr_bipush (v := (-12)) (-12) 104 C (by decide +kernel) rfl rfl ?_
          obtain rfl := Option.some.inj hf
          exact zr_iret C (by decide +kernel) T
def f_M_houses_64  : Nat → Int32 → Int32 → Int32 → Int32 → Int32 → zS → Option (Int32 × zS)
  | 0, _, _, _, _, _, _ => none
  | n + 1, x1, x3, x4, x5, x6,  σ => f_M_houses_64b (fun x1 x3 x4 x5 x6 σ => f_M_houses_64  n x1 x3 x4 x5 x6 σ) x1 x3 x4 x5 x6 σ
theorem w_M_houses_64 {l : Launch} {d : zD} {F : zF} {h : Nat → Nat} {out : Int32 × zS}  (C : zOk d F RX11 cX11_houses 9 3 64) (T : zRt d F (some .int) (some (.int out.1)) (MW d h out.2))  : ∀ (n : Nat) (x1 : Int32) (x3 : Int32) (x4 : Int32) (x5 : Int32) (x6 : Int32) (σ : zS), f_M_houses_64  n x1 x3 x4 x5 x6 σ = some out → V l d F 0 0 (MW d h σ) [some (.ref (h 0)), some (.int x1), none, some (.int x3), some (.int x4), some (.int x5), some (.int x6), none, none] 64 [] := by
  intro n
  induction n with
  | zero =>
    intro x1 x3 x4 x5 x6 σ hf
    cases hf
  | succ n ih =>
    intro x1 x3 x4 x5 x6 σ hf
    exact w_M_houses_64b C T ih x1 x3 x4 x5 x6 σ hf
def f_M_houses (p1 : Int32) (p2 : Int32) (p3 : Int32) (p4 : Int32) (σ : zS) : Option (Int32 × zS) :=
  zbd (f_M_in p1 0 3 σ) fun r2 σ1 =>
  (if r2 = 0 then
  some (-2, σ1)
  else
  zbd (f_M_in p2 0 2 σ1) fun r4 σ3 =>
  (if r4 = 0 then
  some (-2, σ3)
  else
  zbd (f_M_in p4 0 20 σ3) fun r6 σ5 =>
  (if r6 = 0 then
  some (-2, σ5)
  else
  zin p1 4 ((if (σ5.2 19 p1.toNatClampNeg) = (-1) then
  some (-11, σ5)
  else
  zin p1 4 ((if (σ5.2 19 p1.toNatClampNeg) = p2 then
  f_M_houses_64 zfu p1 p3 p4 0 0 σ5
  else
  some (-13, σ5))))))))
set_option maxRecDepth 4000 in
theorem m_M_houses {l : Launch} {d : zD} {h : Nat → Nat} {out : Int32 × zS} {σ : zS} {p1 : Int32} {p2 : Int32} {p3 : Int32} {p4 : Int32} (hf : f_M_houses p1 p2 p3 p4 σ = some out) : zM l yX11_houses cX11_houses 9 (some .int) 3 64 d [.ref (h 0), .int p1, .int p2, .int p3, .int p4] (MW d h σ) (MW d h out.2) (some (.int out.1)) := by
  refine zM_of [some (.ref (h 0)), some (.int p1), some (.int p2), some (.int p3), some (.int p4), none, none, none, none] (by decide +kernel) rfl (Nat.le_of_ble_eq_true rfl) (fun F C T => ?_)
  unfold f_M_houses at hf
  refine zr_iload_n 1 1 C (by decide +kernel) rfl rfl ?_
  refine zr_iconst (v := 0) 0 2 C (by decide +kernel) rfl rfl ?_
  refine zr_iconst (v := 3) 3 3 C (by decide +kernel) rfl rfl ?_
  refine k_M_in (idx := 139) 6 C (by decide +kernel) rfl q_1181 (zb2 rfl rfl) (Nat.le_of_ble_eq_true rfl) hf (fun r2 σ1 hf => ?_)
  refine zr_if_eq (off := 23) 29 9 C (by decide +kernel) (by decide) rfl hf (fun hf => ?_) (fun hf => ?_)
  · refine zr_bipush (v := (-2)) (-2) 31 C (by decide +kernel) rfl rfl ?_
    obtain rfl := Option.some.inj hf
    exact zr_iret C (by decide +kernel) T
  · refine zr_iload_n 2 10 C (by decide +kernel) rfl rfl ?_
    refine zr_iconst (v := 0) 0 11 C (by decide +kernel) rfl rfl ?_
    refine zr_iconst (v := 2) 2 12 C (by decide +kernel) rfl rfl ?_
    refine k_M_in (idx := 139) 15 C (by decide +kernel) rfl q_1181 (zb2 rfl rfl) (Nat.le_of_ble_eq_true rfl) hf (fun r4 σ3 hf => ?_)
    refine zr_if_eq (off := 14) 29 18 C (by decide +kernel) (by decide) rfl hf (fun hf => ?_) (fun hf => ?_)
    · refine zr_bipush (v := (-2)) (-2) 31 C (by decide +kernel) rfl rfl ?_
      obtain rfl := Option.some.inj hf
      exact zr_iret C (by decide +kernel) T
    · refine zr_iload 4 20 C (by decide +kernel) rfl rfl ?_
      refine zr_iconst (v := 0) 0 21 C (by decide +kernel) rfl rfl ?_
      refine zr_bipush (v := 20) 20 23 C (by decide +kernel) rfl rfl ?_
      refine k_M_in (idx := 139) 26 C (by decide +kernel) rfl q_1181 (zb2 rfl rfl) (Nat.le_of_ble_eq_true rfl) hf (fun r6 σ5 hf => ?_)
      refine zr_if_ne (off := 6) 32 29 C (by decide +kernel) (by decide) rfl hf (fun hf => ?_) (fun hf => ?_)
      · refine zr_aload_n 0 33 C (by decide +kernel) rfl rfl ?_
        refine mg_0_32 (idx := 68) 36 C (by decide +kernel) rfl q_1023 ?_
        refine zr_iload_n 1 37 C (by decide +kernel) rfl rfl ?_
        refine ml_19 38 C (by decide +kernel) rfl hf (fun hf => ?_)
        refine zr_iconst (v := (-1)) (-1) 39 C (by decide +kernel) rfl rfl ?_
        refine zr_icmp_ne (off := 6) 45 42 C (by decide +kernel) (by decide) rfl hf (fun hf => ?_) (fun hf => ?_)
        · refine zr_aload_n 0 46 C (by decide +kernel) rfl rfl ?_
          refine mg_0_32 (idx := 68) 49 C (by decide +kernel) rfl q_1023 ?_
          refine zr_iload_n 1 50 C (by decide +kernel) rfl rfl ?_
          refine ml_19 51 C (by decide +kernel) rfl hf (fun hf => ?_)
          refine zr_iload_n 2 52 C (by decide +kernel) rfl rfl ?_
          refine zr_icmp_eq (off := 6) 58 55 C (by decide +kernel) (by decide) rfl hf (fun hf => ?_) (fun hf => ?_)
          · refine zr_iconst (v := 0) 0 59 C (by decide +kernel) rfl rfl ?_
            refine zr_istore 5 [some (.ref (h 0)), some (.int p1), some (.int p2), some (.int p3), some (.int p4), some (.int 0), none, none, none] 61 C (by decide +kernel) rfl (by decide) rfl rfl ?_
            refine zr_iconst (v := 0) 0 62 C (by decide +kernel) rfl rfl ?_
            refine zr_istore 6 [some (.ref (h 0)), some (.int p1), some (.int p2), some (.int p3), some (.int p4), some (.int 0), some (.int 0), none, none] 64 C (by decide +kernel) rfl (by decide) rfl rfl ?_
            refine zr_less (zA (zA (zN (zA (zA (zA (zA (zN (zN zE))))))))) ?_
            exact w_M_houses_64 C T zfu _ _ _ _ _ _ hf
          · refine zr_bipush (v := (-13)) (-13) 57 C (by decide +kernel) rfl rfl ?_
            obtain rfl := Option.some.inj hf
            exact zr_iret C (by decide +kernel) T
        · refine zr_bipush (v := (-11)) (-11) 44 C (by decide +kernel) rfl rfl ?_
          obtain rfl := Option.some.inj hf
          exact zr_iret C (by decide +kernel) T
      · refine zr_bipush (v := (-2)) (-2) 31 C (by decide +kernel) rfl rfl ?_
        obtain rfl := Option.some.inj hf
        exact zr_iret C (by decide +kernel) T
theorem y_M_houses : zY yX11_houses cX11_houses 9 (some .int) 4 := ⟨q_1473, q_90, by decide +kernel, by decide +kernel, by decide +kernel⟩
theorem k_M_houses {l : Launch} {d : zD} {F : zF} {h : Nat → Nat} {σ : zS} {lv : List (Option Value)} {pc : Nat} {own : String} {cc : ByteArray} {nL fr lo idx : Nat} {rest : List Value} {β : Type} {kf : Int32 → zS → Option β} {o2 : β} {p1 : Int32} {p2 : Int32} {p3 : Int32} {p4 : Int32} (pc' : Nat) (C : zOk d F own cc nL fr lo) (hd : decode cc pc = .ok (.invokevirtual idx, 3)) (hp : pc + 3 = pc') (hq : Cond.methodLink own idx yX11_houses ∈ zW) (hm : 3 + 1 ≤ fr ∧ 8 + (9 + 11) + 64 ≤ lo) (hr : (rest.map fun v => v.category).sum ≤ 8) (hf : zbd (f_M_houses p1 p2 p3 p4 σ) kf = some o2) (K : ∀ (r : Int32) (σ' : zS), kf r σ' = some o2 → V l d F 0 0 (MW d h σ') lv pc' (.int r :: rest)) : V l d F 0 0 (MW d h σ) lv pc (.int p4 :: .int p3 :: .int p2 :: .int p1 :: .ref (h 0) :: rest) := by
  obtain ⟨q, h1, h2⟩ := zbd_some hf
  exact zr_callV y_M_houses ⟨q_1471, q_1472⟩ 0 rfl rfl (As := [.int p1, .int p2, .int p3, .int p4]) (m_M_houses h1) rfl rfl pc' C hd hp hq hm hr (K _ _ h2)
/-! StepsBeyondModel.isUnder(II)Z -/
def f_M_isUnder_39   (σ : zS) : Option (Int32 × zS) :=
  some (1, σ)
set_option maxRecDepth 4000 in
theorem w_M_isUnder_39 {l : Launch} {d : zD} {F : zF} {h : Nat → Nat} {out : Int32 × zS}  (C : zOk d F RX11 cX11_isUnder 2 0 0) (T : zRt d F (some .boolean) (some (.int out.1)) (MW d h out.2))   (σ : zS) (hf : f_M_isUnder_39   σ = some out) : V l d F 0 0 (MW d h σ) [none, none] 39 [] := by
  unfold f_M_isUnder_39 at hf
  refine zr_iconst (v := 1) 1 40 C (by decide +kernel) rfl rfl ?_
  refine zr_goto (off := 4) 44 C (by decide +kernel) (by decide) ?_
  obtain rfl := Option.some.inj hf
  exact zr_zret C (by decide +kernel) rfl T
def f_M_isUnder_29  (x0 : Int32) (x1 : Int32) (σ : zS) : Option (Int32 × zS) :=
  (if x1 = 4 then
  (if x0 = 5 then
  f_M_isUnder_39 σ
  else
  some (0, σ))
  else
  some (0, σ))
set_option maxRecDepth 4000 in
theorem w_M_isUnder_29 {l : Launch} {d : zD} {F : zF} {h : Nat → Nat} {out : Int32 × zS}  (C : zOk d F RX11 cX11_isUnder 2 0 0) (T : zRt d F (some .boolean) (some (.int out.1)) (MW d h out.2))  (x0 : Int32) (x1 : Int32) (σ : zS) (hf : f_M_isUnder_29  x0 x1 σ = some out) : V l d F 0 0 (MW d h σ) [some (.int x0), some (.int x1)] 29 [] := by
  unfold f_M_isUnder_29 at hf
  refine zr_iload_n 1 30 C (by decide +kernel) rfl rfl ?_
  refine zr_iconst (v := 4) 4 31 C (by decide +kernel) rfl rfl ?_
  refine zr_icmp_ne (off := 12) 43 34 C (by decide +kernel) (by decide) rfl hf (fun hf => ?_) (fun hf => ?_)
  · refine zr_iconst (v := 0) 0 44 C (by decide +kernel) rfl rfl ?_
    obtain rfl := Option.some.inj hf
    exact zr_zret C (by decide +kernel) rfl T
  · refine zr_iload_n 0 35 C (by decide +kernel) rfl rfl ?_
    refine zr_iconst (v := 5) 5 36 C (by decide +kernel) rfl rfl ?_
    refine zr_icmp_ne (off := 7) 43 39 C (by decide +kernel) (by decide) rfl hf (fun hf => ?_) (fun hf => ?_)
    · refine zr_iconst (v := 0) 0 44 C (by decide +kernel) rfl rfl ?_
      obtain rfl := Option.some.inj hf
      exact zr_zret C (by decide +kernel) rfl T
    · refine zr_less (zN (zN zE)) ?_
      exact w_M_isUnder_39 C T _ hf
def f_M_isUnder_19  (x0 : Int32) (x1 : Int32) (σ : zS) : Option (Int32 × zS) :=
  (if x1 = 2 then
  (if 4 ≤ x0 then
  f_M_isUnder_39 σ
  else
  f_M_isUnder_29 x0 x1 σ)
  else
  f_M_isUnder_29 x0 x1 σ)
set_option maxRecDepth 4000 in
theorem w_M_isUnder_19 {l : Launch} {d : zD} {F : zF} {h : Nat → Nat} {out : Int32 × zS}  (C : zOk d F RX11 cX11_isUnder 2 0 0) (T : zRt d F (some .boolean) (some (.int out.1)) (MW d h out.2))  (x0 : Int32) (x1 : Int32) (σ : zS) (hf : f_M_isUnder_19  x0 x1 σ = some out) : V l d F 0 0 (MW d h σ) [some (.int x0), some (.int x1)] 19 [] := by
  unfold f_M_isUnder_19 at hf
  refine zr_iload_n 1 20 C (by decide +kernel) rfl rfl ?_
  refine zr_iconst (v := 2) 2 21 C (by decide +kernel) rfl rfl ?_
  refine zr_icmp_ne (off := 8) 29 24 C (by decide +kernel) (by decide) rfl hf (fun hf => ?_) (fun hf => ?_)
  · exact w_M_isUnder_29 C T _ _ _ hf
  · refine zr_iload_n 0 25 C (by decide +kernel) rfl rfl ?_
    refine zr_iconst (v := 4) 4 26 C (by decide +kernel) rfl rfl ?_
    refine zr_icmp_ge (off := 13) 39 29 C (by decide +kernel) (by decide) rfl hf (fun hf => ?_) (fun hf => ?_)
    · refine zr_less (zN (zN zE)) ?_
      exact w_M_isUnder_39 C T _ hf
    · exact w_M_isUnder_29 C T _ _ _ hf
def f_M_isUnder (p0 : Int32) (p1 : Int32) (σ : zS) : Option (Int32 × zS) :=
  (if p1 = 0 then
  f_M_isUnder_39 σ
  else
  (if p0 = p1 then
  f_M_isUnder_39 σ
  else
  (if p1 = 1 then
  (if 2 ≤ p0 then
  f_M_isUnder_39 σ
  else
  f_M_isUnder_19 p0 p1 σ)
  else
  f_M_isUnder_19 p0 p1 σ)))
set_option maxRecDepth 4000 in
theorem m_M_isUnder {l : Launch} {d : zD} {h : Nat → Nat} {out : Int32 × zS} {σ : zS} {p0 : Int32} {p1 : Int32} (hf : f_M_isUnder p0 p1 σ = some out) : zM l yX11_isUnder cX11_isUnder 2 (some .boolean) 0 0 d [.int p0, .int p1] (MW d h σ) (MW d h out.2) (some (.int out.1)) := by
  refine zM_of [some (.int p0), some (.int p1)] (by decide +kernel) rfl (Nat.le_of_ble_eq_true rfl) (fun F C T => ?_)
  unfold f_M_isUnder at hf
  refine zr_iload_n 1 1 C (by decide +kernel) rfl rfl ?_
  refine zr_if_eq (off := 38) 39 4 C (by decide +kernel) (by decide) rfl hf (fun hf => ?_) (fun hf => ?_)
  · refine zr_less (zN (zN zE)) ?_
    exact w_M_isUnder_39 C T _ hf
  · refine zr_iload_n 0 5 C (by decide +kernel) rfl rfl ?_
    refine zr_iload_n 1 6 C (by decide +kernel) rfl rfl ?_
    refine zr_icmp_eq (off := 33) 39 9 C (by decide +kernel) (by decide) rfl hf (fun hf => ?_) (fun hf => ?_)
    · refine zr_less (zN (zN zE)) ?_
      exact w_M_isUnder_39 C T _ hf
    · refine zr_iload_n 1 10 C (by decide +kernel) rfl rfl ?_
      refine zr_iconst (v := 1) 1 11 C (by decide +kernel) rfl rfl ?_
      refine zr_icmp_ne (off := 8) 19 14 C (by decide +kernel) (by decide) rfl hf (fun hf => ?_) (fun hf => ?_)
      · exact w_M_isUnder_19 C T _ _ _ hf
      · refine zr_iload_n 0 15 C (by decide +kernel) rfl rfl ?_
        refine zr_iconst (v := 2) 2 16 C (by decide +kernel) rfl rfl ?_
        refine zr_icmp_ge (off := 23) 39 19 C (by decide +kernel) (by decide) rfl hf (fun hf => ?_) (fun hf => ?_)
        · refine zr_less (zN (zN zE)) ?_
          exact w_M_isUnder_39 C T _ hf
        · exact w_M_isUnder_19 C T _ _ _ hf
theorem y_M_isUnder : zY yX11_isUnder cX11_isUnder 2 (some .boolean) 2 := ⟨q_1481, q_90, by decide +kernel, by decide +kernel, by decide +kernel⟩
theorem k_M_isUnder {l : Launch} {d : zD} {F : zF} {h : Nat → Nat} {σ : zS} {lv : List (Option Value)} {pc : Nat} {own : String} {cc : ByteArray} {nL fr lo idx : Nat} {rest : List Value} {β : Type} {kf : Int32 → zS → Option β} {o2 : β} {p0 : Int32} {p1 : Int32} (pc' : Nat) (C : zOk d F own cc nL fr lo) (hd : decode cc pc = .ok (.invokestatic idx, 3)) (hp : pc + 3 = pc') (hq : Cond.methodLink own idx yX11_isUnder ∈ zW) (hm : 0 + 1 ≤ fr ∧ 8 + (2 + 11) + 0 ≤ lo) (hr : (rest.map fun v => v.category).sum ≤ 8) (hf : zbd (f_M_isUnder p0 p1 σ) kf = some o2) (K : ∀ (r : Int32) (σ' : zS), kf r σ' = some o2 → V l d F 0 0 (MW d h σ') lv pc' (.int r :: rest)) : V l d F 0 0 (MW d h σ) lv pc (.int p1 :: .int p0 :: rest) := by
  obtain ⟨q, h1, h2⟩ := zbd_some hf
  exact zr_callS y_M_isUnder q_1480 (As := [.int p0, .int p1]) (m_M_isUnder h1) rfl rfl pc' C hd hp hq hm hr (K _ _ h2)
/-! StepsBeyondModel.taken(II)I -/
def f_M_taken (p1 : Int32) (p2 : Int32) (σ : zS) : Option (Int32 × zS) :=
  zbd (f_M_in p2 0 6 σ) fun r2 σ1 =>
  (if r2 = 0 then
  some (-2, σ1)
  else
  zbd (f_M_in p1 0 31 σ1) fun r4 σ3 =>
  (if r4 = 0 then
  some (-12, σ3)
  else
  (if 20 ≤ p1 then
  (if (p1 - 20) < (σ3.1 3) then
  (if 6 ≤ p2 then
  some (-13, σ3)
  else
  zin (p1 - 20) 12 (zbd (f_M_isUnder (σ3.2 3 (p1 - 20).toNatClampNeg) p2 σ3) fun r6 σ5 =>
  (if r6 = 0 then
  some (-13, σ5)
  else
  some (p1 - 20, σ5))))
  else
  some (-11, σ3))
  else
  (if p1 < (σ3.1 0) then
  (if p2 = 6 then
  zin p1 20 (some (σ3.2 1 p1.toNatClampNeg, σ3))
  else
  some (-13, σ3))
  else
  some (-11, σ3)))))
set_option maxRecDepth 4000 in
theorem m_M_taken {l : Launch} {d : zD} {h : Nat → Nat} {out : Int32 × zS} {σ : zS} {p1 : Int32} {p2 : Int32} (hf : f_M_taken p1 p2 σ = some out) : zM l yX11_taken cX11_taken 3 (some .int) 1 22 d [.ref (h 0), .int p1, .int p2] (MW d h σ) (MW d h out.2) (some (.int out.1)) := by
  refine zM_of [some (.ref (h 0)), some (.int p1), some (.int p2)] (by decide +kernel) rfl (Nat.le_of_ble_eq_true rfl) (fun F C T => ?_)
  unfold f_M_taken at hf
  refine zr_iload_n 2 1 C (by decide +kernel) rfl rfl ?_
  refine zr_iconst (v := 0) 0 2 C (by decide +kernel) rfl rfl ?_
  refine zr_bipush (v := 6) 6 4 C (by decide +kernel) rfl rfl ?_
  refine k_M_in (idx := 139) 7 C (by decide +kernel) rfl q_1181 (zb2 rfl rfl) (Nat.le_of_ble_eq_true rfl) hf (fun r2 σ1 hf => ?_)
  refine zr_if_ne (off := 6) 13 10 C (by decide +kernel) (by decide) rfl hf (fun hf => ?_) (fun hf => ?_)
  · refine zr_iload_n 1 14 C (by decide +kernel) rfl rfl ?_
    refine zr_iconst (v := 0) 0 15 C (by decide +kernel) rfl rfl ?_
    refine zr_bipush (v := 31) 31 17 C (by decide +kernel) rfl rfl ?_
    refine k_M_in (idx := 139) 20 C (by decide +kernel) rfl q_1181 (zb2 rfl rfl) (Nat.le_of_ble_eq_true rfl) hf (fun r4 σ3 hf => ?_)
    refine zr_if_ne (off := 6) 26 23 C (by decide +kernel) (by decide) rfl hf (fun hf => ?_) (fun hf => ?_)
    · refine zr_iload_n 1 27 C (by decide +kernel) rfl rfl ?_
      refine zr_bipush (v := 20) 20 29 C (by decide +kernel) rfl rfl ?_
      refine zr_icmp_ge (off := 34) 63 32 C (by decide +kernel) (by decide) rfl hf (fun hf => ?_) (fun hf => ?_)
      · refine zr_iload_n 1 64 C (by decide +kernel) rfl rfl ?_
        refine zr_bipush (v := 20) 20 66 C (by decide +kernel) rfl rfl ?_
        refine zr_isub 67 C (by decide +kernel) rfl ?_
        refine zr_aload_n 0 68 C (by decide +kernel) rfl rfl ?_
        refine mg_0_3 (idx := 257) 71 C (by decide +kernel) rfl q_994 ?_
        refine zr_icmp_lt (off := 8) 79 74 C (by decide +kernel) (by decide) rfl hf (fun hf => ?_) (fun hf => ?_)
        · refine zr_iload_n 2 80 C (by decide +kernel) rfl rfl ?_
          refine zr_bipush (v := 6) 6 82 C (by decide +kernel) rfl rfl ?_
          refine zr_icmp_ge (off := 26) 108 85 C (by decide +kernel) (by decide) rfl hf (fun hf => ?_) (fun hf => ?_)
          · refine zr_bipush (v := (-13)) (-13) 110 C (by decide +kernel) rfl rfl ?_
            obtain rfl := Option.some.inj hf
            exact zr_iret C (by decide +kernel) T
          · refine zr_aload_n 0 86 C (by decide +kernel) rfl rfl ?_
            refine mg_0_4 (idx := 16) 89 C (by decide +kernel) rfl q_995 ?_
            refine zr_iload_n 1 90 C (by decide +kernel) rfl rfl ?_
            refine zr_bipush (v := 20) 20 92 C (by decide +kernel) rfl rfl ?_
            refine zr_isub 93 C (by decide +kernel) rfl ?_
            refine ml_3 94 C (by decide +kernel) rfl hf (fun hf => ?_)
            refine zr_iload_n 2 95 C (by decide +kernel) rfl rfl ?_
            refine k_M_isUnder (idx := 365) 98 C (by decide +kernel) rfl q_1479 (zb2 rfl rfl) (Nat.le_of_ble_eq_true rfl) hf (fun r6 σ5 hf => ?_)
            refine zr_if_eq (off := 10) 108 101 C (by decide +kernel) (by decide) rfl hf (fun hf => ?_) (fun hf => ?_)
            · refine zr_bipush (v := (-13)) (-13) 110 C (by decide +kernel) rfl rfl ?_
              obtain rfl := Option.some.inj hf
              exact zr_iret C (by decide +kernel) T
            · refine zr_iload_n 1 102 C (by decide +kernel) rfl rfl ?_
              refine zr_bipush (v := 20) 20 104 C (by decide +kernel) rfl rfl ?_
              refine zr_isub 105 C (by decide +kernel) rfl ?_
              refine zr_goto (off := 5) 110 C (by decide +kernel) (by decide) ?_
              obtain rfl := Option.some.inj hf
              exact zr_iret C (by decide +kernel) T
        · refine zr_bipush (v := (-11)) (-11) 76 C (by decide +kernel) rfl rfl ?_
          refine zr_goto (off := 34) 110 C (by decide +kernel) (by decide) ?_
          obtain rfl := Option.some.inj hf
          exact zr_iret C (by decide +kernel) T
      · refine zr_iload_n 1 33 C (by decide +kernel) rfl rfl ?_
        refine zr_aload_n 0 34 C (by decide +kernel) rfl rfl ?_
        refine mg_0_0 (idx := 143) 37 C (by decide +kernel) rfl q_991 ?_
        refine zr_icmp_lt (off := 8) 45 40 C (by decide +kernel) (by decide) rfl hf (fun hf => ?_) (fun hf => ?_)
        · refine zr_iload_n 2 46 C (by decide +kernel) rfl rfl ?_
          refine zr_bipush (v := 6) 6 48 C (by decide +kernel) rfl rfl ?_
          refine zr_icmp_ne (off := 12) 60 51 C (by decide +kernel) (by decide) rfl hf (fun hf => ?_) (fun hf => ?_)
          · refine zr_bipush (v := (-13)) (-13) 62 C (by decide +kernel) rfl rfl ?_
            obtain rfl := Option.some.inj hf
            exact zr_iret C (by decide +kernel) T
          · refine zr_aload_n 0 52 C (by decide +kernel) rfl rfl ?_
            refine mg_0_1 (idx := 7) 55 C (by decide +kernel) rfl q_992 ?_
            refine zr_iload_n 1 56 C (by decide +kernel) rfl rfl ?_
            refine ml_1 57 C (by decide +kernel) rfl hf (fun hf => ?_)
            refine zr_goto (off := 5) 62 C (by decide +kernel) (by decide) ?_
            obtain rfl := Option.some.inj hf
            exact zr_iret C (by decide +kernel) T
        · refine zr_bipush (v := (-11)) (-11) 42 C (by decide +kernel) rfl rfl ?_
          refine zr_goto (off := 20) 62 C (by decide +kernel) (by decide) ?_
          obtain rfl := Option.some.inj hf
          exact zr_iret C (by decide +kernel) T
    · refine zr_bipush (v := (-12)) (-12) 25 C (by decide +kernel) rfl rfl ?_
      obtain rfl := Option.some.inj hf
      exact zr_iret C (by decide +kernel) T
  · refine zr_bipush (v := (-2)) (-2) 12 C (by decide +kernel) rfl rfl ?_
    obtain rfl := Option.some.inj hf
    exact zr_iret C (by decide +kernel) T
theorem y_M_taken : zY yX11_taken cX11_taken 3 (some .int) 2 := ⟨q_1478, q_90, by decide +kernel, by decide +kernel, by decide +kernel⟩
theorem k_M_taken {l : Launch} {d : zD} {F : zF} {h : Nat → Nat} {σ : zS} {lv : List (Option Value)} {pc : Nat} {own : String} {cc : ByteArray} {nL fr lo idx : Nat} {rest : List Value} {β : Type} {kf : Int32 → zS → Option β} {o2 : β} {p1 : Int32} {p2 : Int32} (pc' : Nat) (C : zOk d F own cc nL fr lo) (hd : decode cc pc = .ok (.invokevirtual idx, 3)) (hp : pc + 3 = pc') (hq : Cond.methodLink own idx yX11_taken ∈ zW) (hm : 1 + 1 ≤ fr ∧ 8 + (3 + 11) + 22 ≤ lo) (hr : (rest.map fun v => v.category).sum ≤ 8) (hf : zbd (f_M_taken p1 p2 σ) kf = some o2) (K : ∀ (r : Int32) (σ' : zS), kf r σ' = some o2 → V l d F 0 0 (MW d h σ') lv pc' (.int r :: rest)) : V l d F 0 0 (MW d h σ) lv pc (.int p2 :: .int p1 :: .ref (h 0) :: rest) := by
  obtain ⟨q, h1, h2⟩ := zbd_some hf
  exact zr_callV y_M_taken ⟨q_1476, q_1477⟩ 0 rfl rfl (As := [.int p1, .int p2]) (m_M_taken h1) rfl rfl pc' C hd hp hq hm hr (K _ _ h2)
end
section
theorem q_78 : Cond.initialized RJ7 ∈ zW := z_w 78 (by decide +kernel) (by decide +kernel)
theorem q_88 : Cond.initialized RJ9 ∈ zW := z_w 88 (by decide +kernel) (by decide +kernel)
theorem q_89 : Cond.initialized "java/lang/System" ∈ zW := z_w 89 (by decide +kernel) (by decide +kernel)
theorem q_222 : Cond.static yJ7_fill_53178 ∈ zW := z_w 222 (by decide +kernel) (by decide +kernel)
theorem q_223 : Cond.code yJ7_fill_53178 cJ7_fill_53178 4 none ∈ zW := z_w 223 (by decide +kernel) (by decide +kernel)
theorem q_502 : Cond.static yJ9_min_7cf53 ∈ zW := z_w 502 (by decide +kernel) (by decide +kernel)
theorem q_503 : Cond.code yJ9_min_7cf53 cJ9_min_7cf53 2 (some .int) ∈ zW := z_w 503 (by decide +kernel) (by decide +kernel)
theorem q_505 : Cond.static arraycopyName ∈ zW := z_w 505 (by decide +kernel) (by decide +kernel)
theorem q_506 : Cond.native arraycopyName ∈ zW := z_w 506 (by decide +kernel) (by decide +kernel)
theorem q_532 : Cond.static yJ9_abs_0f7a4 ∈ zW := z_w 532 (by decide +kernel) (by decide +kernel)
theorem q_533 : Cond.code yJ9_abs_0f7a4 cJ9_abs_0f7a4 1 (some .int) ∈ zW := z_w 533 (by decide +kernel) (by decide +kernel)
theorem q_651 : Cond.static yJ9_max_7cf53 ∈ zW := z_w 651 (by decide +kernel) (by decide +kernel)
theorem q_652 : Cond.code yJ9_max_7cf53 cJ9_max_7cf53 2 (some .int) ∈ zW := z_w 652 (by decide +kernel) (by decide +kernel)
end
section
/-! What nobody writes, for the class: nest links, the static row ABOVE, String constants. -/
def zNests : List Cond := [.methodLinkNest RX10 11 yX4_init RX10, .methodLinkNest RX10 18 yX8_init RX10, .methodLinkNest RX10 25 yX9_init RX10, .methodLinkNest RX9 26 yX5_init RX10, .methodLinkNest RX10 39 yX6_init RX10, .methodLinkNest RX10 46 yX3_init RX10, .methodLinkNest RX10 53 yX1_init RX10, .methodLinkNest RX10 67 yX0_init RX10, .methodLinkNest RX9 84 yX10_has RX10, .methodLinkNest RX0 66 yX10_isFrom RX10, .methodLinkNest RX0 70 yX10_apart RX10, .methodLinkNest RX9 103 yX10_apart RX10]
def zAbv : Nat → Int32 := fun k => ([-1, 0, 1, 1, 2, 4] : List Int32).getD k 0
def zSlen : List Nat := [50, 4, 3, 2, 3, 3, 5, 4, 4, 6, 4, 7]
def zSbyt : List (List Int32) := [[110, 101, 97, 114, 32, 97, 112, 97, 114, 116, 32, 60, 32, 53, 48, 32, 97, 110, 100, 32, 104, 117, 116, 115, 32, 60, 32, 50, 32, 59, 32, 102, 97, 114, 32, 49, 50, 32, 45, 32, 108, 111, 97, 102, 32, 42, 32, 52, 32, 59], [110, 101, 97, 114], [102, 97, 114], [111, 114], [97, 110, 100], [110, 111, 116], [97, 112, 97, 114, 116], [115, 105, 100, 101], [104, 117, 116, 115], [104, 111, 117, 115, 101, 115], [108, 111, 97, 102], [114, 97, 118, 105, 110, 101, 115]]
def zNs (U : State) : Prop := ∀ w ∈ zNests, va_Nw w U
def zAb (A : Nat → Prop) (U : State) : Prop := ∃ t, va_Z RX10 "ABOVE" "[I" (.ref t) A U U.heap ∧ va_T .int t 6 (fun j => .int (zAbv j)) A U U.heap
def zSk (ad : Nat → Nat) (U : State) : Prop := vk_R RX10 85 "near apart < 50 and huts < 2 ; far 12 - loaf * 4 ;" (ad 0) U ∧ vk_R RX4 88 "near" (ad 1) U ∧ vk_R RX4 94 "far" (ad 2) U ∧ vk_R RX4 96 "or" (ad 3) U ∧ vk_R RX4 98 "and" (ad 4) U ∧ vk_R RX4 100 "not" (ad 5) U ∧ vk_R RX4 102 "apart" (ad 6) U ∧ vk_R RX4 104 "side" (ad 7) U ∧ vk_R RX4 106 "huts" (ad 8) U ∧ vk_R RX4 108 "houses" (ad 9) U ∧ vk_R RX4 110 "loaf" (ad 10) U ∧ vk_R RX4 112 "ravines" (ad 11) U
def zSt (ad av : Nat → Nat) (A : Nat → Prop) (U : State) : Prop := vk_S 12 zSlen zSbyt ad av A U U.heap ∧ va_Z "java/lang/String" "COMPACT_STRINGS" "Z" (.int 1) A U U.heap
def zXe (d : zD) (ad av : Nat → Nat) : Prop := ∀ (A : Nat → Prop) (U : State), d.2.2.2.2.2 A U → zNs U ∧ zAb A U ∧ zSk ad U ∧ zSt ad av A U
theorem zn_0 {d : zD} {ad av : Nat → Nat} (E : zXe d ad av) : ∀ A U, d.2.2.2.2.2 A U → va_Nw (.methodLinkNest RX10 11 yX4_init RX10) U := fun A U h => (E A U h).1 _ (List.mem_of_getElem? (i := 0) rfl)
theorem zn_1 {d : zD} {ad av : Nat → Nat} (E : zXe d ad av) : ∀ A U, d.2.2.2.2.2 A U → va_Nw (.methodLinkNest RX10 18 yX8_init RX10) U := fun A U h => (E A U h).1 _ (List.mem_of_getElem? (i := 1) rfl)
theorem zn_2 {d : zD} {ad av : Nat → Nat} (E : zXe d ad av) : ∀ A U, d.2.2.2.2.2 A U → va_Nw (.methodLinkNest RX10 25 yX9_init RX10) U := fun A U h => (E A U h).1 _ (List.mem_of_getElem? (i := 2) rfl)
theorem zn_3 {d : zD} {ad av : Nat → Nat} (E : zXe d ad av) : ∀ A U, d.2.2.2.2.2 A U → va_Nw (.methodLinkNest RX9 26 yX5_init RX10) U := fun A U h => (E A U h).1 _ (List.mem_of_getElem? (i := 3) rfl)
theorem zn_4 {d : zD} {ad av : Nat → Nat} (E : zXe d ad av) : ∀ A U, d.2.2.2.2.2 A U → va_Nw (.methodLinkNest RX10 39 yX6_init RX10) U := fun A U h => (E A U h).1 _ (List.mem_of_getElem? (i := 4) rfl)
theorem zn_5 {d : zD} {ad av : Nat → Nat} (E : zXe d ad av) : ∀ A U, d.2.2.2.2.2 A U → va_Nw (.methodLinkNest RX10 46 yX3_init RX10) U := fun A U h => (E A U h).1 _ (List.mem_of_getElem? (i := 5) rfl)
theorem zn_6 {d : zD} {ad av : Nat → Nat} (E : zXe d ad av) : ∀ A U, d.2.2.2.2.2 A U → va_Nw (.methodLinkNest RX10 53 yX1_init RX10) U := fun A U h => (E A U h).1 _ (List.mem_of_getElem? (i := 6) rfl)
theorem zn_7 {d : zD} {ad av : Nat → Nat} (E : zXe d ad av) : ∀ A U, d.2.2.2.2.2 A U → va_Nw (.methodLinkNest RX10 67 yX0_init RX10) U := fun A U h => (E A U h).1 _ (List.mem_of_getElem? (i := 7) rfl)
theorem zn_8 {d : zD} {ad av : Nat → Nat} (E : zXe d ad av) : ∀ A U, d.2.2.2.2.2 A U → va_Nw (.methodLinkNest RX9 84 yX10_has RX10) U := fun A U h => (E A U h).1 _ (List.mem_of_getElem? (i := 8) rfl)
theorem zn_9 {d : zD} {ad av : Nat → Nat} (E : zXe d ad av) : ∀ A U, d.2.2.2.2.2 A U → va_Nw (.methodLinkNest RX0 66 yX10_isFrom RX10) U := fun A U h => (E A U h).1 _ (List.mem_of_getElem? (i := 9) rfl)
theorem zn_10 {d : zD} {ad av : Nat → Nat} (E : zXe d ad av) : ∀ A U, d.2.2.2.2.2 A U → va_Nw (.methodLinkNest RX0 70 yX10_apart RX10) U := fun A U h => (E A U h).1 _ (List.mem_of_getElem? (i := 10) rfl)
theorem zn_11 {d : zD} {ad av : Nat → Nat} (E : zXe d ad av) : ∀ A U, d.2.2.2.2.2 A U → va_Nw (.methodLinkNest RX9 103 yX10_apart RX10) U := fun A U h => (E A U h).1 _ (List.mem_of_getElem? (i := 11) rfl)
def zabs (x : Int32) : Int32 := if 0 ≤ x then x else 0 - x
def zmax (x y : Int32) : Int32 := if x < y then y else x
def zmin (x y : Int32) : Int32 := if y < x then y else x
theorem zr_mabs {l : Launch} {d : zD} {F : zF} {ws : va_W} {lv : List (Option Value)} {pc : Nat} {st : List Value} {own : String} {cc : ByteArray} {nL fr lo idx : Nat} {x : Int32} (pc' : Nat) (C : zOk d F own cc nL fr lo) (hd : decode cc pc = .ok (.invokestatic idx, 3)) (hp : pc + 3 = pc') (hq : Cond.methodLink own idx yJ9_abs_0f7a4 ∈ zW) (hm : 1 ≤ fr ∧ 21 ≤ lo) (hr : (st.map fun v => v.category).sum ≤ 8) (K : V l d F 0 0 ws lv pc' (.int (zabs x) :: st)) : V l d F 0 0 ws lv pc (.int x :: st) := by
  subst hp
  obtain ⟨p, e, R, s, m, args, below, meth, c, Q, A⟩ := F
  intro H locs ls hP hD hS hl
  have hts := C.2.2.2.2.1
  exact va_mabs C.1 C.2.1 hl.1.symm C.2.2.2.1 (hts _ hq) (hts _ q_532) (hts _ q_88) (hts _ q_533) (Nat.le_trans hm.1 C.2.2.2.2.2.2.2.1) (by have h1 := hm.2; have h2 := C.2.2.2.2.2.2.2.2.1; omega) (Nat.zero_le _) (Nat.zero_le _) hd (K H locs ls hP hD hS hl)
theorem zr_mmax {l : Launch} {d : zD} {F : zF} {ws : va_W} {lv : List (Option Value)} {pc : Nat} {st : List Value} {own : String} {cc : ByteArray} {nL fr lo idx : Nat} {x y : Int32} (pc' : Nat) (C : zOk d F own cc nL fr lo) (hd : decode cc pc = .ok (.invokestatic idx, 3)) (hp : pc + 3 = pc') (hq : Cond.methodLink own idx yJ9_max_7cf53 ∈ zW) (hm : 1 ≤ fr ∧ 21 ≤ lo) (hr : (st.map fun v => v.category).sum ≤ 8) (K : V l d F 0 0 ws lv pc' (.int (zmax x y) :: st)) : V l d F 0 0 ws lv pc (.int y :: .int x :: st) := by
  subst hp
  obtain ⟨p, e, R, s, m, args, below, meth, c, Q, A⟩ := F
  intro H locs ls hP hD hS hl
  have hts := C.2.2.2.2.1
  exact va_mmax C.1 C.2.1 hl.1.symm C.2.2.2.1 (hts _ hq) (hts _ q_651) (hts _ q_88) (hts _ q_652) (Nat.le_trans hm.1 C.2.2.2.2.2.2.2.1) (by have h1 := hm.2; have h2 := C.2.2.2.2.2.2.2.2.1; omega) (Nat.zero_le _) (Nat.zero_le _) hd (K H locs ls hP hD hS hl)
theorem zr_mmin {l : Launch} {d : zD} {F : zF} {ws : va_W} {lv : List (Option Value)} {pc : Nat} {st : List Value} {own : String} {cc : ByteArray} {nL fr lo idx : Nat} {x y : Int32} (pc' : Nat) (C : zOk d F own cc nL fr lo) (hd : decode cc pc = .ok (.invokestatic idx, 3)) (hp : pc + 3 = pc') (hq : Cond.methodLink own idx yJ9_min_7cf53 ∈ zW) (hm : 1 ≤ fr ∧ 21 ≤ lo) (hr : (st.map fun v => v.category).sum ≤ 8) (K : V l d F 0 0 ws lv pc' (.int (zmin x y) :: st)) : V l d F 0 0 ws lv pc (.int y :: .int x :: st) := by
  subst hp
  obtain ⟨p, e, R, s, m, args, below, meth, c, Q, A⟩ := F
  intro H locs ls hP hD hS hl
  have hts := C.2.2.2.2.1
  exact va_mmin C.1 C.2.1 hl.1.symm C.2.2.2.1 (hts _ hq) (hts _ q_502) (hts _ q_88) (hts _ q_503) (Nat.le_trans hm.1 C.2.2.2.2.2.2.2.1) (by have h1 := hm.2; have h2 := C.2.2.2.2.2.2.2.2.1; omega) (Nat.zero_le _) (Nat.zero_le _) hd (K H locs ls hP hD hS hl)
def zcp {β : Type} (sp dp n : Int32) (n0 n1 : Nat) (x : Option β) : Option β := if sp < 0 ∨ dp < 0 ∨ n < 0 ∨ n0 < sp.toNatClampNeg + n.toNatClampNeg ∨ n1 < dp.toNatClampNeg + n.toNatClampNeg then none else x
theorem zr_copy {l : Launch} {d : zD} {F : zF} {ws : va_W} {lv : List (Option Value)} {pc : Nat} {own : String} {cc : ByteArray} {nL fr lo : Nat} {st : List Value} {idx a0 a1 n0 n1 : Nat} {f g : Nat → Int32} {sp dp n : Int32} {β : Type} {X : Option β} {out : β} {ws' : va_W} (q0 q1 : Nat) (h0 : ws[q0]? = some (a0, .inl (d.2.1, n0, .inl f))) (h1 : ws[q1]? = some (a1, .inl (d.2.1, n1, .inl g))) (hw : ws.set q1 (a1, .inl (d.2.1, n1, .inl (va_cpy f g sp.toNatClampNeg dp.toNatClampNeg n.toNatClampNeg))) = ws') (pc' : Nat) (C : zOk d F own cc nL fr lo) (hd : decode cc pc = .ok (.invokestatic idx, 3)) (hp : pc + 3 = pc') (hq : Cond.methodLink own idx arraycopyName ∈ zW) (hm : 1 ≤ fr ∧ 8 + (nativeFrameWords "java/lang/System" "arraycopy" 5 + 11) ≤ lo) (hr : (st.map fun v => v.category).sum ≤ 8) (hf : zcp sp dp n n0 n1 X = some out) (K : X = some out → V l d F 0 0 ws' lv pc' st) : V l d F 0 0 ws lv pc (.int n :: .int dp :: .ref a1 :: .int sp :: .ref a0 :: st) := by
  subst hp
  subst hw
  unfold zcp at hf
  split at hf
  · cases hf
  · rename_i hin
    have g1 : ¬ sp < 0 := fun h => hin (Or.inl h)
    have g2 : ¬ dp < 0 := fun h => hin (Or.inr (Or.inl h))
    have g3 : ¬ n < 0 := fun h => hin (Or.inr (Or.inr (Or.inl h)))
    have g4 : sp.toNatClampNeg + n.toNatClampNeg ≤ n0 := Nat.not_lt.mp fun h => hin (Or.inr (Or.inr (Or.inr (Or.inl h))))
    have g5 : dp.toNatClampNeg + n.toNatClampNeg ≤ n1 := Nat.not_lt.mp fun h => hin (Or.inr (Or.inr (Or.inr (Or.inr h))))
    obtain ⟨p, e, R, s, m, args, below, meth, c, Q, A⟩ := F
    intro H locs ls hP hD hS hl
    have hts := C.2.2.2.2.1
    exact va_copyi (D := d.1) (ty := .int) C.1 C.2.1 hl.1.symm C.2.2.2.1 (hts _ hq) (hts _ q_506) (hts _ q_505) (hts _ q_89) C.2.2.2.2.2.2.1 hP hD hS q0 q1 0 0 h0 h1 rfl rfl rfl g1 g2 g3 g4 g5 (fun _ _ => rfl) (Nat.le_trans hm.1 C.2.2.2.2.2.2.2.1) (by have h1 := hm.2; have h2 := C.2.2.2.2.2.2.2.2.1; omega) hd (fun H1 locs1 hP1 hD1 hS1 => K hf H1 locs1 ls hP1 hD1 hS1 hl)
theorem zr_aald {l : Launch} {d : zD} {F : zF} {k n : Nat} {ws : va_W} {lv : List (Option Value)} {pc : Nat} {st : List Value} {own : String} {cc : ByteArray} {nL fr lo : Nat} {a N : Nat} {f : Nat → Option Nat} {i : Int32} {β : Type} {X : Option β} {out : β} (q0 : Nat) (he : ws[q0]? = some (a, .inl (d.2.2.2.2.1, N, .inr (.inr (.inr (.inr f)))))) (pc' : Nat) (C : zOk d F own cc nL fr lo) (hd : decode cc pc = .ok (.aaload, 1)) (hp : pc + 1 = pc') (hf : zin i N X = some out) (K : X = some out → V l d F k n ws lv pc' (va_rf (f i.toNatClampNeg) :: st)) : V l d F k n ws lv pc (.int i :: .ref a :: st) := by
  subst hp
  unfold zin at hf
  split at hf
  · cases hf
  · rename_i hin
    obtain ⟨p, e, R, s, m, args, below, meth, c, Q, A⟩ := F
    intro H locs ls hP hD hS hl
    have hlt : i.toNatClampNeg < N := Nat.not_le.mp fun q => hin (Or.inr q)
    exact W.aald (v := va_rf (f i.toNatClampNeg)) (ty := .array .int) C.1 C.2.1 (hP q0 _ he) ((C.2.2.2.2.2.2.1.2 3 _ rfl).1 N (fun j => va_rf (f j))) rfl (fun q => by cases q) (by show ¬ (i < 0 ∨ (arrV _ _ _).slots.size ≤ _); rw [arrV_size]; exact hin) (by show (arrV _ _ _).slots[_]? = _; rw [arrV_read _ _ hlt]) rfl rfl hd (K hf H locs ls hP hD hS hl)
/-- the static row ABOVE -/
def zAt (F : zF) (t : Nat) : Prop := match F with
  | (_, _, _, s, _, _, _, _, _, _, A) => va_T .int t 6 (fun j => .int (zAbv j)) A s s.heap
theorem xr_ab {l : Launch} {d : zD} {F : zF} {k n : Nat} {ws : va_W} {lv : List (Option Value)} {pc : Nat} {st : List Value} {own : String} {cc : ByteArray} {nL fr lo : Nat} {ad av : Nat → Nat} {idx : Nat} (pc' : Nat) (C : zOk d F own cc nL fr lo) (E : zXe d ad av) (hd : decode cc pc = .ok (.getstatic idx, 3)) (hp : pc + 3 = pc') (hq : Cond.fieldLink own idx RX10 "ABOVE" "[I" ∈ zW) (K : ∀ t, zAt F t → V l d F k n ws lv pc' (.ref t :: st)) : V l d F k n ws lv pc st := by
  subst hp
  obtain ⟨p, e, R, s, m, args, below, meth, c, Q, A⟩ := F
  intro H locs ls hP hD hS hl
  obtain ⟨t, hZ, hT⟩ := (E A s C.2.2.2.2.2.2.2.2.2.2).2.1
  exact va_gets C.1 C.2.1 hZ hS C.2.2.2.1 (C.2.2.2.2.1 _ hq) (fun _ h => h) hd (K t hT H locs ls hP hD hS hl)
theorem xr_ablen {l : Launch} {d : zD} {F : zF} {k n : Nat} {ws : va_W} {lv : List (Option Value)} {pc : Nat} {st : List Value} {own : String} {cc : ByteArray} {nL fr lo : Nat} {t : Nat} (pc' : Nat) (C : zOk d F own cc nL fr lo) (hT : zAt F t) (hd : decode cc pc = .ok (.arraylength, 1)) (hp : pc + 1 = pc') (K : V l d F k n ws lv pc' (.int 6 :: st)) : V l d F k n ws lv pc (.ref t :: st) := by
  subst hp
  obtain ⟨p, e, R, s, m, args, below, meth, c, Q, A⟩ := F
  intro H locs ls hP hD hS hl
  exact va_tlen C.1 C.2.1 hT hS rfl hd (K H locs ls hP hD hS hl)
theorem xr_abld {l : Launch} {d : zD} {F : zF} {k n : Nat} {ws : va_W} {lv : List (Option Value)} {pc : Nat} {st : List Value} {own : String} {cc : ByteArray} {nL fr lo : Nat} {t : Nat} {i : Int32} {β : Type} {X : Option β} {out : β} (pc' : Nat) (C : zOk d F own cc nL fr lo) (hT : zAt F t) (hd : decode cc pc = .ok (.iaload, 1)) (hp : pc + 1 = pc') (hf : zin i 6 X = some out) (K : X = some out → V l d F k n ws lv pc' (.int (zAbv i.toNatClampNeg) :: st)) : V l d F k n ws lv pc (.int i :: .ref t :: st) := by
  subst hp
  unfold zin at hf
  split at hf
  · cases hf
  · rename_i hin
    obtain ⟨p, e, R, s, m, args, below, meth, c, Q, A⟩ := F
    intro H locs ls hP hD hS hl
    exact va_ti C.1 C.2.1 hT hS hin rfl hd (K hf H locs ls hP hD hS hl)
/-! Arrays.fill -/
def zfl (N : Nat) (v : Int32) (f : Nat → Int32) : Nat → Int32 := fun j => if j < N then v else f j
theorem zfl_up {i : Nat} {v : Int32} {f : Nat → Int32} : upd (zfl i v f) i v = zfl (i + 1) v f := by
  funext j
  unfold upd zfl
  by_cases h : j = i
  · subst h; simp
  · by_cases h2 : j < i
    · simp [h, h2, Nat.lt_succ_of_lt h2]
    · simp [h, h2, show ¬ j < i + 1 by omega]
theorem w_fill {l : Launch} {d : zD} {F : zF} {ws : va_W} {a N : Nat} {f : Nat → Int32} {v : Int32} (C : zOk d F RJ7 cJ7_fill_53178 4 0 0) (q0 : Nat) (hq0 : q0 < ws.length) (hN : N < 2 ^ 31) (T : zRt d F none none (ws.set q0 (a, .inl (d.2.1, N, .inl (zfl N v f))))) : ∀ (r i : Nat), i + r = N → V l d F 0 0 (ws.set q0 (a, .inl (d.2.1, N, .inl (zfl i v f)))) [some (.ref a), some (.int v), some (.int (nI i)), some (.int (nI N))] 5 [] := by
  intro r
  induction r with
  | zero =>
    intro i hi
    have hi : i = N := by omega
    subst hi
    refine zr_iload_n 2 6 C (by decide +kernel) rfl rfl ?_
    refine zr_iload_n 3 7 C (by decide +kernel) rfl rfl ?_
    refine zr_icmp_ge (off := 13) (X := some ()) (Y := none) (out := ()) 20 10 C (by decide +kernel) (by decide) rfl (if_pos (Int32.le_refl _)) (fun _ => ?_) (fun h => by cases h)
    exact zr_vret C (by decide +kernel) T
  | succ r ih =>
    intro i hi
    have hlt : i < N := by omega
    refine zr_iload_n 2 6 C (by decide +kernel) rfl rfl ?_
    refine zr_iload_n 3 7 C (by decide +kernel) rfl rfl ?_
    refine zr_icmp_ge (off := 13) (X := none) (Y := some ()) (out := ()) 20 10 C (by decide +kernel) (by decide) rfl (if_neg (nI_ge hlt hN)) (fun h => by cases h) (fun _ => ?_)
    refine zr_aload_n 0 11 C (by decide +kernel) rfl rfl ?_
    refine zr_iload_n 2 12 C (by decide +kernel) rfl rfl ?_
    refine zr_iload_n 1 13 C (by decide +kernel) rfl rfl ?_
    refine zr_iast (X := some ()) (out := ()) (ws' := ws.set q0 (a, .inl (d.2.1, N, .inl (zfl (i + 1) v f)))) q0 (by rw [List.getElem?_set_self hq0]) (by rw [List.set_set, nI_clamp (by omega), zfl_up]) 14 C (by decide +kernel) rfl (by unfold zin; exact if_neg (vp_in_nI hlt hN)) (fun _ => ?_)
    refine zr_iinc (v := nI (i + 1)) (j := 1) 2 [some (.ref a), some (.int v), some (.int (nI (i + 1))), some (.int (nI N))] 17 C (by decide +kernel) rfl rfl (nI_succ i).symm (by decide) rfl rfl ?_
    refine zr_goto (off := -12) 5 C (by decide +kernel) (by decide) ?_
    exact ih (i + 1) (by omega)
theorem m_fill {l : Launch} {d : zD} {ws ws' : va_W} {a N : Nat} {f : Nat → Int32} {v : Int32} (q0 : Nat) (he : ws[q0]? = some (a, .inl (d.2.1, N, .inl f))) (hN : N < 2 ^ 31) (hw : ws.set q0 (a, .inl (d.2.1, N, .inl (zfl N v f))) = ws') : zM l yJ7_fill_53178 cJ7_fill_53178 4 none 0 0 d [.ref a, .int v] ws ws' none := by
  subst hw
  refine zM_of [some (.ref a), some (.int v), none, none] (by decide +kernel) rfl (Nat.le_of_ble_eq_true rfl) (fun F C T => ?_)
  have hq0 : q0 < ws.length := (List.getElem?_eq_some_iff.mp he).1
  have e0 : ws = ws.set q0 (a, .inl (d.2.1, N, .inl (zfl 0 v f))) := by
    have : zfl 0 v f = f := by funext j; simp [zfl]
    rw [this]
    obtain ⟨_, h2⟩ := List.getElem?_eq_some_iff.mp he
    rw [← h2]
    exact (List.set_getElem_self hq0).symm
  refine zr_iconst (v := 0) 0 1 C (by decide +kernel) rfl rfl ?_
  refine zr_istore_n 2 [some (.ref a), some (.int v), some (.int 0), none] 2 C (by decide +kernel) rfl (by decide) rfl rfl ?_
  refine zr_aload_n 0 3 C (by decide +kernel) rfl rfl ?_
  refine zr_alen (N := N) (t0 := 0) q0 he rfl 4 C (by decide +kernel) rfl ?_
  refine zr_istore_n 3 [some (.ref a), some (.int v), some (.int 0), some (.int (nI N))] 5 C (by decide +kernel) rfl (by decide) rfl rfl ?_
  have := w_fill (l := l) C q0 hq0 hN T N 0 (by omega)
  rw [← e0, nI_0] at this
  exact this
theorem y_fill : zY yJ7_fill_53178 cJ7_fill_53178 4 none 2 := ⟨q_223, q_78, by decide +kernel, by decide +kernel, by decide +kernel⟩
theorem k_fill {l : Launch} {d : zD} {F : zF} {ws : va_W} {lv : List (Option Value)} {pc : Nat} {own : String} {cc : ByteArray} {nL fr lo : Nat} {idx a N : Nat} {f : Nat → Int32} {v : Int32} {rest : List Value} {ws' : va_W} (q0 : Nat) (he : ws[q0]? = some (a, .inl (d.2.1, N, .inl f))) (hN : N < 2 ^ 31) (hw : ws.set q0 (a, .inl (d.2.1, N, .inl (zfl N v f))) = ws') (pc' : Nat) (C : zOk d F own cc nL fr lo) (hd : decode cc pc = .ok (.invokestatic idx, 3)) (hp : pc + 3 = pc') (hq : Cond.methodLink own idx yJ7_fill_53178 ∈ zW) (hm : 0 + 1 ≤ fr ∧ 8 + (4 + 11) + 0 ≤ lo) (hr : (rest.map fun v => v.category).sum ≤ 8) (K : V l d F 0 0 ws' lv pc' rest) : V l d F 0 0 ws lv pc (.int v :: .ref a :: rest) := zr_callS y_fill q_222 (As := [.ref a, .int v]) (m_fill q0 he hN hw) rfl rfl pc' C hd hp hq hm hr K
end
