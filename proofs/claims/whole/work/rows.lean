section
-- ===== PART A: goes FIRST, ahead of the names: the tables' words, and 'selects' of the private methods out of them =====
/-- a private method of a class that the tables say can be made, by its rows of tables_1 -/
def lw_okq (q : MethodName × Nat) : Prop := (q.1.cls ≠ "java/lang/invoke/MethodHandle" ∧ q.1.cls ≠ "java/lang/invoke/VarHandle") ∧ Cond.instantiable q.1.cls q.2 ∈ tables_1 ∧ Cond.privateMethod q.1 ∈ tables_1 ∧ Cond.instanceMethod q.1 ∈ tables_1
theorem lw_p0 : lw_okq (⟨"StepsBeyond$Reader", "next", "()V"⟩, 9) := ⟨⟨by decide +kernel, by decide +kernel⟩, List.mem_of_getElem? (i := 29) (by decide +kernel), List.mem_of_getElem? (i := 344) (by decide +kernel), List.mem_of_getElem? (i := 345) (by decide +kernel)⟩
theorem lw_p1 : lw_okq (⟨"StepsBeyond$Reader", "takeWord", "()V"⟩, 9) := ⟨⟨by decide +kernel, by decide +kernel⟩, List.mem_of_getElem? (i := 29) (by decide +kernel), List.mem_of_getElem? (i := 351) (by decide +kernel), List.mem_of_getElem? (i := 352) (by decide +kernel)⟩
theorem lw_p2 : lw_okq (⟨"StepsBeyond$Reader", "isHere", "(Ljava/lang/String;)Z"⟩, 9) := ⟨⟨by decide +kernel, by decide +kernel⟩, List.mem_of_getElem? (i := 29) (by decide +kernel), List.mem_of_getElem? (i := 356) (by decide +kernel), List.mem_of_getElem? (i := 357) (by decide +kernel)⟩
theorem lw_p3 : lw_okq (⟨"StepsBeyond$Reader", "takeNumber", "()V"⟩, 9) := ⟨⟨by decide +kernel, by decide +kernel⟩, List.mem_of_getElem? (i := 29) (by decide +kernel), List.mem_of_getElem? (i := 375) (by decide +kernel), List.mem_of_getElem? (i := 376) (by decide +kernel)⟩
theorem lw_p4 : lw_okq (⟨"StepsBeyond$Reader", "pass", "(I)Z"⟩, 9) := ⟨⟨by decide +kernel, by decide +kernel⟩, List.mem_of_getElem? (i := 29) (by decide +kernel), List.mem_of_getElem? (i := 382) (by decide +kernel), List.mem_of_getElem? (i := 383) (by decide +kernel)⟩
theorem lw_p5 : lw_okq (⟨"StepsBeyond$Reader", "readOr", "(I)Z"⟩, 9) := ⟨⟨by decide +kernel, by decide +kernel⟩, List.mem_of_getElem? (i := 29) (by decide +kernel), List.mem_of_getElem? (i := 386) (by decide +kernel), List.mem_of_getElem? (i := 387) (by decide +kernel)⟩
theorem lw_p6 : lw_okq (⟨"StepsBeyond$Reader", "readAnd", "(I)Z"⟩, 9) := ⟨⟨by decide +kernel, by decide +kernel⟩, List.mem_of_getElem? (i := 29) (by decide +kernel), List.mem_of_getElem? (i := 390) (by decide +kernel), List.mem_of_getElem? (i := 391) (by decide +kernel)⟩
theorem lw_p7 : lw_okq (⟨"StepsBeyond$Reader", "readNot", "(I)Z"⟩, 9) := ⟨⟨by decide +kernel, by decide +kernel⟩, List.mem_of_getElem? (i := 29) (by decide +kernel), List.mem_of_getElem? (i := 394) (by decide +kernel), List.mem_of_getElem? (i := 395) (by decide +kernel)⟩
theorem lw_p8 : lw_okq (⟨"StepsBeyond$Reader", "readCompared", "(I)Z"⟩, 9) := ⟨⟨by decide +kernel, by decide +kernel⟩, List.mem_of_getElem? (i := 29) (by decide +kernel), List.mem_of_getElem? (i := 398) (by decide +kernel), List.mem_of_getElem? (i := 399) (by decide +kernel)⟩
theorem lw_p9 : lw_okq (⟨"StepsBeyond$Reader", "readSum", "(I)Z"⟩, 9) := ⟨⟨by decide +kernel, by decide +kernel⟩, List.mem_of_getElem? (i := 29) (by decide +kernel), List.mem_of_getElem? (i := 402) (by decide +kernel), List.mem_of_getElem? (i := 403) (by decide +kernel)⟩
theorem lw_p10 : lw_okq (⟨"StepsBeyond$Reader", "readTerm", "(I)Z"⟩, 9) := ⟨⟨by decide +kernel, by decide +kernel⟩, List.mem_of_getElem? (i := 29) (by decide +kernel), List.mem_of_getElem? (i := 406) (by decide +kernel), List.mem_of_getElem? (i := 407) (by decide +kernel)⟩
theorem lw_p11 : lw_okq (⟨"StepsBeyond$Reader", "readOne", "(I)Z"⟩, 9) := ⟨⟨by decide +kernel, by decide +kernel⟩, List.mem_of_getElem? (i := 29) (by decide +kernel), List.mem_of_getElem? (i := 410) (by decide +kernel), List.mem_of_getElem? (i := 411) (by decide +kernel)⟩
theorem lw_p12 : lw_okq (⟨"StepsBeyond$Reader", "write", "(I)V"⟩, 9) := ⟨⟨by decide +kernel, by decide +kernel⟩, List.mem_of_getElem? (i := 29) (by decide +kernel), List.mem_of_getElem? (i := 414) (by decide +kernel), List.mem_of_getElem? (i := 415) (by decide +kernel)⟩
theorem lw_p13 : lw_okq (⟨"StepsBeyond$Village", "areNear", "(III)Z"⟩, 9) := ⟨⟨by decide +kernel, by decide +kernel⟩, List.mem_of_getElem? (i := 90) (by decide +kernel), List.mem_of_getElem? (i := 457) (by decide +kernel), List.mem_of_getElem? (i := 458) (by decide +kernel)⟩
theorem lw_p14 : lw_okq (⟨"StepsBeyond$Reckoner", "push", "(I)V"⟩, 3) := ⟨⟨by decide +kernel, by decide +kernel⟩, List.mem_of_getElem? (i := 96) (by decide +kernel), List.mem_of_getElem? (i := 476) (by decide +kernel), List.mem_of_getElem? (i := 477) (by decide +kernel)⟩
theorem lw_p15 : lw_okq (⟨"StepsBeyond$Reckoner", "turnTop", "(I)V"⟩, 3) := ⟨⟨by decide +kernel, by decide +kernel⟩, List.mem_of_getElem? (i := 96) (by decide +kernel), List.mem_of_getElem? (i := 480) (by decide +kernel), List.mem_of_getElem? (i := 481) (by decide +kernel)⟩
def lw_privs_1 : List (MethodName × Nat) := [(⟨"StepsBeyond$Reader", "next", "()V"⟩, 9), (⟨"StepsBeyond$Reader", "takeWord", "()V"⟩, 9), (⟨"StepsBeyond$Reader", "isHere", "(Ljava/lang/String;)Z"⟩, 9), (⟨"StepsBeyond$Reader", "takeNumber", "()V"⟩, 9), (⟨"StepsBeyond$Reader", "pass", "(I)Z"⟩, 9), (⟨"StepsBeyond$Reader", "readOr", "(I)Z"⟩, 9), (⟨"StepsBeyond$Reader", "readAnd", "(I)Z"⟩, 9), (⟨"StepsBeyond$Reader", "readNot", "(I)Z"⟩, 9), (⟨"StepsBeyond$Reader", "readCompared", "(I)Z"⟩, 9), (⟨"StepsBeyond$Reader", "readSum", "(I)Z"⟩, 9), (⟨"StepsBeyond$Reader", "readTerm", "(I)Z"⟩, 9), (⟨"StepsBeyond$Reader", "readOne", "(I)Z"⟩, 9), (⟨"StepsBeyond$Reader", "write", "(I)V"⟩, 9), (⟨"StepsBeyond$Village", "areNear", "(III)Z"⟩, 9), (⟨"StepsBeyond$Reckoner", "push", "(I)V"⟩, 3), (⟨"StepsBeyond$Reckoner", "turnTop", "(I)V"⟩, 3)]
theorem lw_r1 : ∀ q ∈ lw_privs_1, lw_okq q := List.forall_mem_cons.mpr ⟨lw_p0, List.forall_mem_cons.mpr ⟨lw_p1, List.forall_mem_cons.mpr ⟨lw_p2, List.forall_mem_cons.mpr ⟨lw_p3, List.forall_mem_cons.mpr ⟨lw_p4, List.forall_mem_cons.mpr ⟨lw_p5, List.forall_mem_cons.mpr ⟨lw_p6, List.forall_mem_cons.mpr ⟨lw_p7, List.forall_mem_cons.mpr ⟨lw_p8, List.forall_mem_cons.mpr ⟨lw_p9, List.forall_mem_cons.mpr ⟨lw_p10, List.forall_mem_cons.mpr ⟨lw_p11, List.forall_mem_cons.mpr ⟨lw_p12, List.forall_mem_cons.mpr ⟨lw_p13, List.forall_mem_cons.mpr ⟨lw_p14, List.forall_mem_cons.mpr ⟨lw_p15, fun _ h => absurd h List.not_mem_nil⟩⟩⟩⟩⟩⟩⟩⟩⟩⟩⟩⟩⟩⟩⟩⟩
theorem lw_p16 : lw_okq (⟨"StepsBeyond$Reckoner", "joinTwo", "(I)V"⟩, 3) := ⟨⟨by decide +kernel, by decide +kernel⟩, List.mem_of_getElem? (i := 96) (by decide +kernel), List.mem_of_getElem? (i := 484) (by decide +kernel), List.mem_of_getElem? (i := 485) (by decide +kernel)⟩
theorem lw_p17 : lw_okq (⟨"StepsBeyond$Village", "spreadFrom", "(II)I"⟩, 9) := ⟨⟨by decide +kernel, by decide +kernel⟩, List.mem_of_getElem? (i := 90) (by decide +kernel), List.mem_of_getElem? (i := 591) (by decide +kernel), List.mem_of_getElem? (i := 592) (by decide +kernel)⟩
theorem lw_p18 : lw_okq (⟨"StepsBeyond", "enforce", "(I)V"⟩, 16) := ⟨⟨by decide +kernel, by decide +kernel⟩, List.mem_of_getElem? (i := 21) (by decide +kernel), List.mem_of_getElem? (i := 621) (by decide +kernel), List.mem_of_getElem? (i := 622) (by decide +kernel)⟩
theorem lw_p19 : lw_okq (⟨"StepsBeyond", "reachOf", "(I)I"⟩, 16) := ⟨⟨by decide +kernel, by decide +kernel⟩, List.mem_of_getElem? (i := 21) (by decide +kernel), List.mem_of_getElem? (i := 645) (by decide +kernel), List.mem_of_getElem? (i := 646) (by decide +kernel)⟩
theorem lw_p20 : lw_okq (⟨"StepsBeyond", "middleOf", "(I)I"⟩, 16) := ⟨⟨by decide +kernel, by decide +kernel⟩, List.mem_of_getElem? (i := 21) (by decide +kernel), List.mem_of_getElem? (i := 650) (by decide +kernel), List.mem_of_getElem? (i := 651) (by decide +kernel)⟩
theorem lw_p21 : lw_okq (⟨"StepsBeyond", "measure", "(LStepsBeyond$Area;I)V"⟩, 16) := ⟨⟨by decide +kernel, by decide +kernel⟩, List.mem_of_getElem? (i := 21) (by decide +kernel), List.mem_of_getElem? (i := 658) (by decide +kernel), List.mem_of_getElem? (i := 659) (by decide +kernel)⟩
theorem lw_p22 : lw_okq (⟨"StepsBeyond$Area", "isInBox", "(II)Z"⟩, 9) := ⟨⟨by decide +kernel, by decide +kernel⟩, List.mem_of_getElem? (i := 253) (by decide +kernel), List.mem_of_getElem? (i := 691) (by decide +kernel), List.mem_of_getElem? (i := 692) (by decide +kernel)⟩
theorem lw_p23 : lw_okq (⟨"StepsBeyond$Area", "isByOne", "(I)Z"⟩, 9) := ⟨⟨by decide +kernel, by decide +kernel⟩, List.mem_of_getElem? (i := 253) (by decide +kernel), List.mem_of_getElem? (i := 696) (by decide +kernel), List.mem_of_getElem? (i := 697) (by decide +kernel)⟩
theorem lw_p24 : lw_okq (⟨"StepsBeyond$Land", "sweepSouth", "([I)Z"⟩, 2) := ⟨⟨by decide +kernel, by decide +kernel⟩, List.mem_of_getElem? (i := 145) (by decide +kernel), List.mem_of_getElem? (i := 733) (by decide +kernel), List.mem_of_getElem? (i := 734) (by decide +kernel)⟩
theorem lw_p25 : lw_okq (⟨"StepsBeyond$Land", "sweepRow", "([II)Z"⟩, 2) := ⟨⟨by decide +kernel, by decide +kernel⟩, List.mem_of_getElem? (i := 145) (by decide +kernel), List.mem_of_getElem? (i := 737) (by decide +kernel), List.mem_of_getElem? (i := 738) (by decide +kernel)⟩
theorem lw_p26 : lw_okq (⟨"StepsBeyond$Land", "sweepNorth", "([I)Z"⟩, 2) := ⟨⟨by decide +kernel, by decide +kernel⟩, List.mem_of_getElem? (i := 145) (by decide +kernel), List.mem_of_getElem? (i := 741) (by decide +kernel), List.mem_of_getElem? (i := 742) (by decide +kernel)⟩
theorem lw_p27 : lw_okq (⟨"StepsBeyond", "isOut", "(I)Z"⟩, 16) := ⟨⟨by decide +kernel, by decide +kernel⟩, List.mem_of_getElem? (i := 21) (by decide +kernel), List.mem_of_getElem? (i := 765) (by decide +kernel), List.mem_of_getElem? (i := 766) (by decide +kernel)⟩
theorem lw_p28 : lw_okq (⟨"StepsBeyond", "whyNot", "(IIII)I"⟩, 16) := ⟨⟨by decide +kernel, by decide +kernel⟩, List.mem_of_getElem? (i := 21) (by decide +kernel), List.mem_of_getElem? (i := 777) (by decide +kernel), List.mem_of_getElem? (i := 778) (by decide +kernel)⟩
theorem lw_p29 : lw_okq (⟨"StepsBeyond", "meetingPlace", "(II)I"⟩, 16) := ⟨⟨by decide +kernel, by decide +kernel⟩, List.mem_of_getElem? (i := 21) (by decide +kernel), List.mem_of_getElem? (i := 794) (by decide +kernel), List.mem_of_getElem? (i := 795) (by decide +kernel)⟩
theorem lw_p30 : lw_okq (⟨"StepsBeyond$Village", "hutJoins", "(II)Z"⟩, 9) := ⟨⟨by decide +kernel, by decide +kernel⟩, List.mem_of_getElem? (i := 90) (by decide +kernel), List.mem_of_getElem? (i := 806) (by decide +kernel), List.mem_of_getElem? (i := 807) (by decide +kernel)⟩
theorem lw_p31 : lw_okq (⟨"StepsBeyond$Village", "hutIsNear", "(II)Z"⟩, 9) := ⟨⟨by decide +kernel, by decide +kernel⟩, List.mem_of_getElem? (i := 90) (by decide +kernel), List.mem_of_getElem? (i := 810) (by decide +kernel), List.mem_of_getElem? (i := 811) (by decide +kernel)⟩
def lw_privs_2 : List (MethodName × Nat) := [(⟨"StepsBeyond$Reckoner", "joinTwo", "(I)V"⟩, 3), (⟨"StepsBeyond$Village", "spreadFrom", "(II)I"⟩, 9), (⟨"StepsBeyond", "enforce", "(I)V"⟩, 16), (⟨"StepsBeyond", "reachOf", "(I)I"⟩, 16), (⟨"StepsBeyond", "middleOf", "(I)I"⟩, 16), (⟨"StepsBeyond", "measure", "(LStepsBeyond$Area;I)V"⟩, 16), (⟨"StepsBeyond$Area", "isInBox", "(II)Z"⟩, 9), (⟨"StepsBeyond$Area", "isByOne", "(I)Z"⟩, 9), (⟨"StepsBeyond$Land", "sweepSouth", "([I)Z"⟩, 2), (⟨"StepsBeyond$Land", "sweepRow", "([II)Z"⟩, 2), (⟨"StepsBeyond$Land", "sweepNorth", "([I)Z"⟩, 2), (⟨"StepsBeyond", "isOut", "(I)Z"⟩, 16), (⟨"StepsBeyond", "whyNot", "(IIII)I"⟩, 16), (⟨"StepsBeyond", "meetingPlace", "(II)I"⟩, 16), (⟨"StepsBeyond$Village", "hutJoins", "(II)Z"⟩, 9), (⟨"StepsBeyond$Village", "hutIsNear", "(II)Z"⟩, 9)]
theorem lw_r2 : ∀ q ∈ lw_privs_2, lw_okq q := List.forall_mem_cons.mpr ⟨lw_p16, List.forall_mem_cons.mpr ⟨lw_p17, List.forall_mem_cons.mpr ⟨lw_p18, List.forall_mem_cons.mpr ⟨lw_p19, List.forall_mem_cons.mpr ⟨lw_p20, List.forall_mem_cons.mpr ⟨lw_p21, List.forall_mem_cons.mpr ⟨lw_p22, List.forall_mem_cons.mpr ⟨lw_p23, List.forall_mem_cons.mpr ⟨lw_p24, List.forall_mem_cons.mpr ⟨lw_p25, List.forall_mem_cons.mpr ⟨lw_p26, List.forall_mem_cons.mpr ⟨lw_p27, List.forall_mem_cons.mpr ⟨lw_p28, List.forall_mem_cons.mpr ⟨lw_p29, List.forall_mem_cons.mpr ⟨lw_p30, List.forall_mem_cons.mpr ⟨lw_p31, fun _ h => absurd h List.not_mem_nil⟩⟩⟩⟩⟩⟩⟩⟩⟩⟩⟩⟩⟩⟩⟩⟩
theorem lw_p32 : lw_okq (⟨"StepsBeyond$Village", "heldNext", "(II)I"⟩, 9) := ⟨⟨by decide +kernel, by decide +kernel⟩, List.mem_of_getElem? (i := 90) (by decide +kernel), List.mem_of_getElem? (i := 822) (by decide +kernel), List.mem_of_getElem? (i := 823) (by decide +kernel)⟩
theorem lw_p33 : lw_okq (⟨"StepsBeyond$Village", "isByOne", "(III)Z"⟩, 9) := ⟨⟨by decide +kernel, by decide +kernel⟩, List.mem_of_getElem? (i := 90) (by decide +kernel), List.mem_of_getElem? (i := 826) (by decide +kernel), List.mem_of_getElem? (i := 827) (by decide +kernel)⟩
theorem lw_p34 : lw_okq (⟨"StepsBeyond", "houseTaken", "(II)I"⟩, 16) := ⟨⟨by decide +kernel, by decide +kernel⟩, List.mem_of_getElem? (i := 21) (by decide +kernel), List.mem_of_getElem? (i := 888) (by decide +kernel), List.mem_of_getElem? (i := 889) (by decide +kernel)⟩
theorem lw_p35 : lw_okq (⟨"StepsBeyond", "shapeTaken", "(II)I"⟩, 16) := ⟨⟨by decide +kernel, by decide +kernel⟩, List.mem_of_getElem? (i := 21) (by decide +kernel), List.mem_of_getElem? (i := 892) (by decide +kernel), List.mem_of_getElem? (i := 893) (by decide +kernel)⟩
theorem lw_p36 : lw_okq (⟨"StepsBeyondModel", "first", "(IIIII)V"⟩, 60) := ⟨⟨by decide +kernel, by decide +kernel⟩, List.mem_of_getElem? (i := 896) (by decide +kernel), List.mem_of_getElem? (i := 914) (by decide +kernel), List.mem_of_getElem? (i := 915) (by decide +kernel)⟩
theorem lw_p37 : lw_okq (⟨"StepsBeyondModel", "isHouse", "(I)Z"⟩, 60) := ⟨⟨by decide +kernel, by decide +kernel⟩, List.mem_of_getElem? (i := 896) (by decide +kernel), List.mem_of_getElem? (i := 1118) (by decide +kernel), List.mem_of_getElem? (i := 1119) (by decide +kernel)⟩
theorem lw_p38 : lw_okq (⟨"StepsBeyondModel", "next", "()V"⟩, 60) := ⟨⟨by decide +kernel, by decide +kernel⟩, List.mem_of_getElem? (i := 896) (by decide +kernel), List.mem_of_getElem? (i := 1131) (by decide +kernel), List.mem_of_getElem? (i := 1132) (by decide +kernel)⟩
theorem lw_p39 : lw_okq (⟨"StepsBeyondModel", "letters", "()J"⟩, 60) := ⟨⟨by decide +kernel, by decide +kernel⟩, List.mem_of_getElem? (i := 896) (by decide +kernel), List.mem_of_getElem? (i := 1135) (by decide +kernel), List.mem_of_getElem? (i := 1136) (by decide +kernel)⟩
theorem lw_p40 : lw_okq (⟨"StepsBeyondModel", "eRead", "()Z"⟩, 60) := ⟨⟨by decide +kernel, by decide +kernel⟩, List.mem_of_getElem? (i := 896) (by decide +kernel), List.mem_of_getElem? (i := 1139) (by decide +kernel), List.mem_of_getElem? (i := 1140) (by decide +kernel)⟩
theorem lw_p41 : lw_okq (⟨"StepsBeyondModel", "puts", "(I)V"⟩, 60) := ⟨⟨by decide +kernel, by decide +kernel⟩, List.mem_of_getElem? (i := 896) (by decide +kernel), List.mem_of_getElem? (i := 1144) (by decide +kernel), List.mem_of_getElem? (i := 1145) (by decide +kernel)⟩
theorem lw_p42 : lw_okq (⟨"StepsBeyondModel", "unwinds", "(I)V"⟩, 60) := ⟨⟨by decide +kernel, by decide +kernel⟩, List.mem_of_getElem? (i := 896) (by decide +kernel), List.mem_of_getElem? (i := 1148) (by decide +kernel), List.mem_of_getElem? (i := 1149) (by decide +kernel)⟩
theorem lw_p43 : lw_okq (⟨"StepsBeyondModel", "opensOne", "(I)Z"⟩, 60) := ⟨⟨by decide +kernel, by decide +kernel⟩, List.mem_of_getElem? (i := 896) (by decide +kernel), List.mem_of_getElem? (i := 1155) (by decide +kernel), List.mem_of_getElem? (i := 1156) (by decide +kernel)⟩
theorem lw_p44 : lw_okq (⟨"StepsBeyondModel", "holds", "(I)V"⟩, 60) := ⟨⟨by decide +kernel, by decide +kernel⟩, List.mem_of_getElem? (i := 896) (by decide +kernel), List.mem_of_getElem? (i := 1159) (by decide +kernel), List.mem_of_getElem? (i := 1160) (by decide +kernel)⟩
theorem lw_p45 : lw_okq (⟨"StepsBeyondModel", "signOf", "()I"⟩, 60) := ⟨⟨by decide +kernel, by decide +kernel⟩, List.mem_of_getElem? (i := 896) (by decide +kernel), List.mem_of_getElem? (i := 1163) (by decide +kernel), List.mem_of_getElem? (i := 1164) (by decide +kernel)⟩
theorem lw_p46 : lw_okq (⟨"StepsBeyondModel", "between", "(I)Z"⟩, 60) := ⟨⟨by decide +kernel, by decide +kernel⟩, List.mem_of_getElem? (i := 896) (by decide +kernel), List.mem_of_getElem? (i := 1167) (by decide +kernel), List.mem_of_getElem? (i := 1168) (by decide +kernel)⟩
theorem lw_p47 : lw_okq (⟨"StepsBeyondModel", "nearTwo", "(II)Z"⟩, 60) := ⟨⟨by decide +kernel, by decide +kernel⟩, List.mem_of_getElem? (i := 896) (by decide +kernel), List.mem_of_getElem? (i := 1179) (by decide +kernel), List.mem_of_getElem? (i := 1180) (by decide +kernel)⟩
def lw_privs_3 : List (MethodName × Nat) := [(⟨"StepsBeyond$Village", "heldNext", "(II)I"⟩, 9), (⟨"StepsBeyond$Village", "isByOne", "(III)Z"⟩, 9), (⟨"StepsBeyond", "houseTaken", "(II)I"⟩, 16), (⟨"StepsBeyond", "shapeTaken", "(II)I"⟩, 16), (⟨"StepsBeyondModel", "first", "(IIIII)V"⟩, 60), (⟨"StepsBeyondModel", "isHouse", "(I)Z"⟩, 60), (⟨"StepsBeyondModel", "next", "()V"⟩, 60), (⟨"StepsBeyondModel", "letters", "()J"⟩, 60), (⟨"StepsBeyondModel", "eRead", "()Z"⟩, 60), (⟨"StepsBeyondModel", "puts", "(I)V"⟩, 60), (⟨"StepsBeyondModel", "unwinds", "(I)V"⟩, 60), (⟨"StepsBeyondModel", "opensOne", "(I)Z"⟩, 60), (⟨"StepsBeyondModel", "holds", "(I)V"⟩, 60), (⟨"StepsBeyondModel", "signOf", "()I"⟩, 60), (⟨"StepsBeyondModel", "between", "(I)Z"⟩, 60), (⟨"StepsBeyondModel", "nearTwo", "(II)Z"⟩, 60)]
theorem lw_r3 : ∀ q ∈ lw_privs_3, lw_okq q := List.forall_mem_cons.mpr ⟨lw_p32, List.forall_mem_cons.mpr ⟨lw_p33, List.forall_mem_cons.mpr ⟨lw_p34, List.forall_mem_cons.mpr ⟨lw_p35, List.forall_mem_cons.mpr ⟨lw_p36, List.forall_mem_cons.mpr ⟨lw_p37, List.forall_mem_cons.mpr ⟨lw_p38, List.forall_mem_cons.mpr ⟨lw_p39, List.forall_mem_cons.mpr ⟨lw_p40, List.forall_mem_cons.mpr ⟨lw_p41, List.forall_mem_cons.mpr ⟨lw_p42, List.forall_mem_cons.mpr ⟨lw_p43, List.forall_mem_cons.mpr ⟨lw_p44, List.forall_mem_cons.mpr ⟨lw_p45, List.forall_mem_cons.mpr ⟨lw_p46, List.forall_mem_cons.mpr ⟨lw_p47, fun _ h => absurd h List.not_mem_nil⟩⟩⟩⟩⟩⟩⟩⟩⟩⟩⟩⟩⟩⟩⟩⟩
theorem lw_p48 : lw_okq (⟨"StepsBeyondModel", "areNear", "(III)Z"⟩, 60) := ⟨⟨by decide +kernel, by decide +kernel⟩, List.mem_of_getElem? (i := 896) (by decide +kernel), List.mem_of_getElem? (i := 1183) (by decide +kernel), List.mem_of_getElem? (i := 1184) (by decide +kernel)⟩
theorem lw_p49 : lw_okq (⟨"StepsBeyondModel", "worth", "(I)I"⟩, 60) := ⟨⟨by decide +kernel, by decide +kernel⟩, List.mem_of_getElem? (i := 896) (by decide +kernel), List.mem_of_getElem? (i := 1193) (by decide +kernel), List.mem_of_getElem? (i := 1194) (by decide +kernel)⟩
theorem lw_p50 : lw_okq (⟨"StepsBeyondModel", "farBy", "(I)I"⟩, 60) := ⟨⟨by decide +kernel, by decide +kernel⟩, List.mem_of_getElem? (i := 896) (by decide +kernel), List.mem_of_getElem? (i := 1204) (by decide +kernel), List.mem_of_getElem? (i := 1205) (by decide +kernel)⟩
theorem lw_p51 : lw_okq (⟨"StepsBeyondModel", "townOf", "(I)I"⟩, 60) := ⟨⟨by decide +kernel, by decide +kernel⟩, List.mem_of_getElem? (i := 896) (by decide +kernel), List.mem_of_getElem? (i := 1212) (by decide +kernel), List.mem_of_getElem? (i := 1213) (by decide +kernel)⟩
theorem lw_p52 : lw_okq (⟨"StepsBeyondModel", "all", "()I"⟩, 60) := ⟨⟨by decide +kernel, by decide +kernel⟩, List.mem_of_getElem? (i := 896) (by decide +kernel), List.mem_of_getElem? (i := 1216) (by decide +kernel), List.mem_of_getElem? (i := 1217) (by decide +kernel)⟩
theorem lw_p53 : lw_okq (⟨"StepsBeyondModel", "reached", "(II)I"⟩, 60) := ⟨⟨by decide +kernel, by decide +kernel⟩, List.mem_of_getElem? (i := 896) (by decide +kernel), List.mem_of_getElem? (i := 1220) (by decide +kernel), List.mem_of_getElem? (i := 1221) (by decide +kernel)⟩
theorem lw_p54 : lw_okq (⟨"StepsBeyondModel", "isShape", "(I)Z"⟩, 60) := ⟨⟨by decide +kernel, by decide +kernel⟩, List.mem_of_getElem? (i := 896) (by decide +kernel), List.mem_of_getElem? (i := 1243) (by decide +kernel), List.mem_of_getElem? (i := 1244) (by decide +kernel)⟩
theorem lw_p55 : lw_okq (⟨"StepsBeyondModel", "reach", "(I)I"⟩, 60) := ⟨⟨by decide +kernel, by decide +kernel⟩, List.mem_of_getElem? (i := 896) (by decide +kernel), List.mem_of_getElem? (i := 1247) (by decide +kernel), List.mem_of_getElem? (i := 1248) (by decide +kernel)⟩
theorem lw_p56 : lw_okq (⟨"StepsBeyondModel", "middle", "(I)I"⟩, 60) := ⟨⟨by decide +kernel, by decide +kernel⟩, List.mem_of_getElem? (i := 896) (by decide +kernel), List.mem_of_getElem? (i := 1251) (by decide +kernel), List.mem_of_getElem? (i := 1252) (by decide +kernel)⟩
theorem lw_p57 : lw_okq (⟨"StepsBeyondModel", "looks", "(I)V"⟩, 60) := ⟨⟨by decide +kernel, by decide +kernel⟩, List.mem_of_getElem? (i := 896) (by decide +kernel), List.mem_of_getElem? (i := 1259) (by decide +kernel), List.mem_of_getElem? (i := 1260) (by decide +kernel)⟩
theorem lw_p58 : lw_okq (⟨"StepsBeyondModel", "spans", "(I)V"⟩, 60) := ⟨⟨by decide +kernel, by decide +kernel⟩, List.mem_of_getElem? (i := 896) (by decide +kernel), List.mem_of_getElem? (i := 1263) (by decide +kernel), List.mem_of_getElem? (i := 1264) (by decide +kernel)⟩
theorem lw_p59 : lw_okq (⟨"StepsBeyondModel", "isIn", "(II)Z"⟩, 60) := ⟨⟨by decide +kernel, by decide +kernel⟩, List.mem_of_getElem? (i := 896) (by decide +kernel), List.mem_of_getElem? (i := 1267) (by decide +kernel), List.mem_of_getElem? (i := 1268) (by decide +kernel)⟩
theorem lw_p60 : lw_okq (⟨"StepsBeyondModel", "byHouses", "(I)Z"⟩, 60) := ⟨⟨by decide +kernel, by decide +kernel⟩, List.mem_of_getElem? (i := 896) (by decide +kernel), List.mem_of_getElem? (i := 1271) (by decide +kernel), List.mem_of_getElem? (i := 1272) (by decide +kernel)⟩
theorem lw_p61 : lw_okq (⟨"StepsBeyondModel", "isBox", "(II)Z"⟩, 60) := ⟨⟨by decide +kernel, by decide +kernel⟩, List.mem_of_getElem? (i := 896) (by decide +kernel), List.mem_of_getElem? (i := 1275) (by decide +kernel), List.mem_of_getElem? (i := 1276) (by decide +kernel)⟩
theorem lw_p62 : lw_okq (⟨"StepsBeyondModel", "marksOne", "(I)I"⟩, 60) := ⟨⟨by decide +kernel, by decide +kernel⟩, List.mem_of_getElem? (i := 896) (by decide +kernel), List.mem_of_getElem? (i := 1283) (by decide +kernel), List.mem_of_getElem? (i := 1284) (by decide +kernel)⟩
theorem lw_p63 : lw_okq (⟨"StepsBeyondModel", "marksOther", "(I)V"⟩, 60) := ⟨⟨by decide +kernel, by decide +kernel⟩, List.mem_of_getElem? (i := 896) (by decide +kernel), List.mem_of_getElem? (i := 1291) (by decide +kernel), List.mem_of_getElem? (i := 1292) (by decide +kernel)⟩
def lw_privs_4 : List (MethodName × Nat) := [(⟨"StepsBeyondModel", "areNear", "(III)Z"⟩, 60), (⟨"StepsBeyondModel", "worth", "(I)I"⟩, 60), (⟨"StepsBeyondModel", "farBy", "(I)I"⟩, 60), (⟨"StepsBeyondModel", "townOf", "(I)I"⟩, 60), (⟨"StepsBeyondModel", "all", "()I"⟩, 60), (⟨"StepsBeyondModel", "reached", "(II)I"⟩, 60), (⟨"StepsBeyondModel", "isShape", "(I)Z"⟩, 60), (⟨"StepsBeyondModel", "reach", "(I)I"⟩, 60), (⟨"StepsBeyondModel", "middle", "(I)I"⟩, 60), (⟨"StepsBeyondModel", "looks", "(I)V"⟩, 60), (⟨"StepsBeyondModel", "spans", "(I)V"⟩, 60), (⟨"StepsBeyondModel", "isIn", "(II)Z"⟩, 60), (⟨"StepsBeyondModel", "byHouses", "(I)Z"⟩, 60), (⟨"StepsBeyondModel", "isBox", "(II)Z"⟩, 60), (⟨"StepsBeyondModel", "marksOne", "(I)I"⟩, 60), (⟨"StepsBeyondModel", "marksOther", "(I)V"⟩, 60)]
theorem lw_r4 : ∀ q ∈ lw_privs_4, lw_okq q := List.forall_mem_cons.mpr ⟨lw_p48, List.forall_mem_cons.mpr ⟨lw_p49, List.forall_mem_cons.mpr ⟨lw_p50, List.forall_mem_cons.mpr ⟨lw_p51, List.forall_mem_cons.mpr ⟨lw_p52, List.forall_mem_cons.mpr ⟨lw_p53, List.forall_mem_cons.mpr ⟨lw_p54, List.forall_mem_cons.mpr ⟨lw_p55, List.forall_mem_cons.mpr ⟨lw_p56, List.forall_mem_cons.mpr ⟨lw_p57, List.forall_mem_cons.mpr ⟨lw_p58, List.forall_mem_cons.mpr ⟨lw_p59, List.forall_mem_cons.mpr ⟨lw_p60, List.forall_mem_cons.mpr ⟨lw_p61, List.forall_mem_cons.mpr ⟨lw_p62, List.forall_mem_cons.mpr ⟨lw_p63, fun _ h => absurd h List.not_mem_nil⟩⟩⟩⟩⟩⟩⟩⟩⟩⟩⟩⟩⟩⟩⟩⟩
theorem lw_p64 : lw_okq (⟨"StepsBeyondModel", "spreads", "(I)V"⟩, 60) := ⟨⟨by decide +kernel, by decide +kernel⟩, List.mem_of_getElem? (i := 896) (by decide +kernel), List.mem_of_getElem? (i := 1307) (by decide +kernel), List.mem_of_getElem? (i := 1308) (by decide +kernel)⟩
theorem lw_p65 : lw_okq (⟨"StepsBeyondModel", "cost", "(III)I"⟩, 60) := ⟨⟨by decide +kernel, by decide +kernel⟩, List.mem_of_getElem? (i := 896) (by decide +kernel), List.mem_of_getElem? (i := 1312) (by decide +kernel), List.mem_of_getElem? (i := 1313) (by decide +kernel)⟩
theorem lw_p66 : lw_okq (⟨"StepsBeyondModel", "tries", "(III)V"⟩, 60) := ⟨⟨by decide +kernel, by decide +kernel⟩, List.mem_of_getElem? (i := 896) (by decide +kernel), List.mem_of_getElem? (i := 1316) (by decide +kernel), List.mem_of_getElem? (i := 1317) (by decide +kernel)⟩
theorem lw_p67 : lw_okq (⟨"StepsBeyondModel", "isPerson", "(I)Z"⟩, 60) := ⟨⟨by decide +kernel, by decide +kernel⟩, List.mem_of_getElem? (i := 896) (by decide +kernel), List.mem_of_getElem? (i := 1328) (by decide +kernel), List.mem_of_getElem? (i := 1329) (by decide +kernel)⟩
theorem lw_p68 : lw_okq (⟨"StepsBeyondModel", "isOut", "(I)Z"⟩, 60) := ⟨⟨by decide +kernel, by decide +kernel⟩, List.mem_of_getElem? (i := 896) (by decide +kernel), List.mem_of_getElem? (i := 1336) (by decide +kernel), List.mem_of_getElem? (i := 1337) (by decide +kernel)⟩
theorem lw_p69 : lw_okq (⟨"StepsBeyondModel", "why", "(III)I"⟩, 60) := ⟨⟨by decide +kernel, by decide +kernel⟩, List.mem_of_getElem? (i := 896) (by decide +kernel), List.mem_of_getElem? (i := 1348) (by decide +kernel), List.mem_of_getElem? (i := 1349) (by decide +kernel)⟩
theorem lw_p70 : lw_okq (⟨"StepsBeyondModel", "joins", "(II)Z"⟩, 60) := ⟨⟨by decide +kernel, by decide +kernel⟩, List.mem_of_getElem? (i := 896) (by decide +kernel), List.mem_of_getElem? (i := 1368) (by decide +kernel), List.mem_of_getElem? (i := 1369) (by decide +kernel)⟩
def lw_privs_5 : List (MethodName × Nat) := [(⟨"StepsBeyondModel", "spreads", "(I)V"⟩, 60), (⟨"StepsBeyondModel", "cost", "(III)I"⟩, 60), (⟨"StepsBeyondModel", "tries", "(III)V"⟩, 60), (⟨"StepsBeyondModel", "isPerson", "(I)Z"⟩, 60), (⟨"StepsBeyondModel", "isOut", "(I)Z"⟩, 60), (⟨"StepsBeyondModel", "why", "(III)I"⟩, 60), (⟨"StepsBeyondModel", "joins", "(II)Z"⟩, 60)]
theorem lw_r5 : ∀ q ∈ lw_privs_5, lw_okq q := List.forall_mem_cons.mpr ⟨lw_p64, List.forall_mem_cons.mpr ⟨lw_p65, List.forall_mem_cons.mpr ⟨lw_p66, List.forall_mem_cons.mpr ⟨lw_p67, List.forall_mem_cons.mpr ⟨lw_p68, List.forall_mem_cons.mpr ⟨lw_p69, List.forall_mem_cons.mpr ⟨lw_p70, fun _ h => absurd h List.not_mem_nil⟩⟩⟩⟩⟩⟩⟩
def lw_privs : List (MethodName × Nat) := lw_privs_1 ++ (lw_privs_2 ++ (lw_privs_3 ++ (lw_privs_4 ++ (lw_privs_5))))
def lw_tbl : List Cond := k2_sels lw_privs ++ tables_1
theorem lw_privs_ok : ∀ q ∈ lw_privs, lw_okq q := by
  show ∀ q ∈ lw_privs_1 ++ (lw_privs_2 ++ (lw_privs_3 ++ (lw_privs_4 ++ (lw_privs_5)))), lw_okq q
  exact List.forall_mem_append.mpr ⟨lw_r1, List.forall_mem_append.mpr ⟨lw_r2, List.forall_mem_append.mpr ⟨lw_r3, List.forall_mem_append.mpr ⟨lw_r4, lw_r5⟩⟩⟩⟩
end
section
def RX0 : String := "StepsBeyond$Area"
def TX0 : u_T := fun k => match k with
  | 0 => ("StepsBeyond$Area", "counted", "[I", true)
  | 1 => ("StepsBeyond$Area", "number", "I", false)
  | 2 => ("StepsBeyond$Area", "reach", "I", false)
  | 3 => ("StepsBeyond$Area", "leastX", "I", false)
  | 4 => ("StepsBeyond$Area", "greatestX", "I", false)
  | 5 => ("StepsBeyond$Area", "leastY", "I", false)
  | 6 => ("StepsBeyond$Area", "greatestY", "I", false)
  | 7 => ("StepsBeyond$Area", "square", "Z", false)
  | _ => ("StepsBeyond$Area", "filled", "Z", false)
def tyX0 : Nat → FieldType := fun k => match k with
  | 0 => .array .int
  | 1 => .int
  | 2 => .int
  | 3 => .int
  | 4 => .int
  | 5 => .int
  | 6 => .int
  | 7 => .boolean
  | _ => .boolean
abbrev wsX00 : List Cond := u_ws RX0 TX0 9
theorem nmX0 : ∀ a, a < 9 → ∀ b, b < 9 → a ≠ b → (TX0 a).2.1 ≠ (TX0 b).2.1 := by decide +kernel
theorem tyX0_ok : ∀ k, k < 9 → parseFieldDescriptor (TX0 k).2.2.1 = some (tyX0 k) := by decide +kernel
abbrev cX0_init : ByteArray := prog_2_method_1_code
def yX0_init : MethodName := ⟨RX0, "<init>", "()V"⟩
abbrev cX0_clear : ByteArray := prog_2_method_2_code
def yX0_clear : MethodName := ⟨RX0, "clear", "(ZI)V"⟩
abbrev cX0_include : ByteArray := prog_2_method_3_code
def yX0_include : MethodName := ⟨RX0, "include", "(I)V"⟩
abbrev cX0_fillUpTo : ByteArray := prog_2_method_4_code
def yX0_fillUpTo : MethodName := ⟨RX0, "fillUpTo", "(I)V"⟩
abbrev cX0_measureLoaf : ByteArray := prog_2_method_5_code
def yX0_measureLoaf : MethodName := ⟨RX0, "measureLoaf", "(II)V"⟩
abbrev cX0_holds : ByteArray := prog_2_method_6_code
def yX0_holds : MethodName := ⟨RX0, "holds", "(I)Z"⟩
abbrev cX0_isInBox : ByteArray := prog_2_method_7_code
def yX0_isInBox : MethodName := ⟨RX0, "isInBox", "(II)Z"⟩
abbrev cX0_isByOne : ByteArray := prog_2_method_8_code
def yX0_isByOne : MethodName := ⟨RX0, "isByOne", "(I)Z"⟩
def RX1 : String := "StepsBeyond$Image"
def TX1 : u_T := fun k => match k with
  | 0 => ("StepsBeyond$Image", "huts", "[I", true)
  | 1 => ("StepsBeyond$Image", "places", "[I", true)
  | 2 => ("StepsBeyond$Image", "made", "Z", false)
  | 3 => ("StepsBeyond$Image", "houseCount", "I", false)
  | 4 => ("StepsBeyond$Image", "personCount", "I", false)
  | 5 => ("StepsBeyond$Image", "loafPlace", "I", false)
  | _ => ("StepsBeyond$Image", "lawNumber", "I", false)
def tyX1 : Nat → FieldType := fun k => match k with
  | 0 => .array .int
  | 1 => .array .int
  | 2 => .boolean
  | 3 => .int
  | 4 => .int
  | 5 => .int
  | _ => .int
abbrev wsX10 : List Cond := u_ws RX1 TX1 7
theorem nmX1 : ∀ a, a < 7 → ∀ b, b < 7 → a ≠ b → (TX1 a).2.1 ≠ (TX1 b).2.1 := by decide +kernel
theorem tyX1_ok : ∀ k, k < 7 → parseFieldDescriptor (TX1 k).2.2.1 = some (tyX1 k) := by decide +kernel
abbrev cX1_init : ByteArray := prog_3_method_1_code
def yX1_init : MethodName := ⟨RX1, "<init>", "()V"⟩
def RX2 : String := "StepsBeyond$Land"
def TX2 : u_T := fun k => match k with
  | 0 => ("StepsBeyond$Land", "fromWest", "[I", true)
  | _ => ("StepsBeyond$Land", "fromNorth", "[I", true)
def tyX2 : Nat → FieldType := fun k => match k with
  | 0 => .array .int
  | _ => .array .int
abbrev wsX20 : List Cond := u_ws RX2 TX2 2
theorem nmX2 : ∀ a, a < 2 → ∀ b, b < 2 → a ≠ b → (TX2 a).2.1 ≠ (TX2 b).2.1 := by decide +kernel
theorem tyX2_ok : ∀ k, k < 2 → parseFieldDescriptor (TX2 k).2.2.1 = some (tyX2 k) := by decide +kernel
abbrev cX2_init : ByteArray := prog_4_method_1_code
def yX2_init : MethodName := ⟨RX2, "<init>", "()V"⟩
abbrev cX2_split : ByteArray := prog_4_method_2_code
def yX2_split : MethodName := ⟨RX2, "split", "(IIIII)V"⟩
abbrev cX2_walkFrom : ByteArray := prog_4_method_3_code
def yX2_walkFrom : MethodName := ⟨RX2, "walkFrom", "(I[I)V"⟩
abbrev cX2_sweepSouth : ByteArray := prog_4_method_4_code
def yX2_sweepSouth : MethodName := ⟨RX2, "sweepSouth", "([I)Z"⟩
abbrev cX2_sweepNorth : ByteArray := prog_4_method_5_code
def yX2_sweepNorth : MethodName := ⟨RX2, "sweepNorth", "([I)Z"⟩
abbrev cX2_sweepRow : ByteArray := prog_4_method_6_code
def yX2_sweepRow : MethodName := ⟨RX2, "sweepRow", "([II)Z"⟩
def RX3 : String := "StepsBeyond$People"
def TX3 : u_T := fun k => match k with
  | 0 => ("StepsBeyond$People", "places", "[I", true)
  | 1 => ("StepsBeyond$People", "bounds", "[I", true)
  | _ => ("StepsBeyond$People", "number", "I", false)
def tyX3 : Nat → FieldType := fun k => match k with
  | 0 => .array .int
  | 1 => .array .int
  | _ => .int
abbrev wsX30 : List Cond := u_ws RX3 TX3 3
theorem nmX3 : ∀ a, a < 3 → ∀ b, b < 3 → a ≠ b → (TX3 a).2.1 ≠ (TX3 b).2.1 := by decide +kernel
theorem tyX3_ok : ∀ k, k < 3 → parseFieldDescriptor (TX3 k).2.2.1 = some (tyX3 k) := by decide +kernel
abbrev cX3_init : ByteArray := prog_5_method_1_code
def yX3_init : MethodName := ⟨RX3, "<init>", "()V"⟩
abbrev cX3_knows : ByteArray := prog_5_method_2_code
def yX3_knows : MethodName := ⟨RX3, "knows", "(I)Z"⟩
abbrev cX3_add : ByteArray := prog_5_method_3_code
def yX3_add : MethodName := ⟨RX3, "add", "(II)I"⟩
def RX4 : String := "StepsBeyond$Reader"
def TX4 : u_T := fun k => match k with
  | 0 => ("StepsBeyond$Reader", "tape", "[I", true)
  | 1 => ("StepsBeyond$Reader", "code", "[I", true)
  | 2 => ("StepsBeyond$Reader", "length", "I", false)
  | 3 => ("StepsBeyond$Reader", "written", "I", false)
  | 4 => ("StepsBeyond$Reader", "farStart", "I", false)
  | 5 => ("StepsBeyond$Reader", "at", "I", false)
  | 6 => ("StepsBeyond$Reader", "behind", "I", false)
  | 7 => ("StepsBeyond$Reader", "token", "I", false)
  | _ => ("StepsBeyond$Reader", "value", "I", false)
def tyX4 : Nat → FieldType := fun k => match k with
  | 0 => .array .int
  | 1 => .array .int
  | 2 => .int
  | 3 => .int
  | 4 => .int
  | 5 => .int
  | 6 => .int
  | 7 => .int
  | _ => .int
abbrev wsX40 : List Cond := u_ws RX4 TX4 9
theorem nmX4 : ∀ a, a < 9 → ∀ b, b < 9 → a ≠ b → (TX4 a).2.1 ≠ (TX4 b).2.1 := by decide +kernel
theorem tyX4_ok : ∀ k, k < 9 → parseFieldDescriptor (TX4 k).2.2.1 = some (tyX4 k) := by decide +kernel
abbrev cX4_init : ByteArray := prog_6_method_1_code
def yX4_init : MethodName := ⟨RX4, "<init>", "()V"⟩
abbrev cX4_append : ByteArray := prog_6_method_2_code
def yX4_append : MethodName := ⟨RX4, "append", "(I)V"⟩
abbrev cX4_clear : ByteArray := prog_6_method_3_code
def yX4_clear : MethodName := ⟨RX4, "clear", "()V"⟩
abbrev cX4_readText : ByteArray := prog_6_method_4_code
def yX4_readText : MethodName := ⟨RX4, "readText", "()Z"⟩
abbrev cX4_readOr : ByteArray := prog_6_method_5_code
def yX4_readOr : MethodName := ⟨RX4, "readOr", "(I)Z"⟩
abbrev cX4_readAnd : ByteArray := prog_6_method_6_code
def yX4_readAnd : MethodName := ⟨RX4, "readAnd", "(I)Z"⟩
abbrev cX4_readNot : ByteArray := prog_6_method_7_code
def yX4_readNot : MethodName := ⟨RX4, "readNot", "(I)Z"⟩
abbrev cX4_readCompared : ByteArray := prog_6_method_8_code
def yX4_readCompared : MethodName := ⟨RX4, "readCompared", "(I)Z"⟩
abbrev cX4_readSum : ByteArray := prog_6_method_9_code
def yX4_readSum : MethodName := ⟨RX4, "readSum", "(I)Z"⟩
abbrev cX4_readTerm : ByteArray := prog_6_method_10_code
def yX4_readTerm : MethodName := ⟨RX4, "readTerm", "(I)Z"⟩
abbrev cX4_readOne : ByteArray := prog_6_method_11_code
def yX4_readOne : MethodName := ⟨RX4, "readOne", "(I)Z"⟩
abbrev cX4_pass : ByteArray := prog_6_method_12_code
def yX4_pass : MethodName := ⟨RX4, "pass", "(I)Z"⟩
abbrev cX4_write : ByteArray := prog_6_method_13_code
def yX4_write : MethodName := ⟨RX4, "write", "(I)V"⟩
abbrev cX4_next : ByteArray := prog_6_method_14_code
def yX4_next : MethodName := ⟨RX4, "next", "()V"⟩
abbrev cX4_takeWord : ByteArray := prog_6_method_15_code
def yX4_takeWord : MethodName := ⟨RX4, "takeWord", "()V"⟩
abbrev cX4_takeNumber : ByteArray := prog_6_method_16_code
def yX4_takeNumber : MethodName := ⟨RX4, "takeNumber", "()V"⟩
abbrev cX4_isHere : ByteArray := prog_6_method_17_code
def yX4_isHere : MethodName := ⟨RX4, "isHere", "(Ljava/lang/String;)Z"⟩
abbrev cX4_signOf : ByteArray := prog_6_method_18_code
def yX4_signOf : MethodName := ⟨RX4, "signOf", "(I)I"⟩
abbrev cX4_isLetter : ByteArray := prog_6_method_19_code
def yX4_isLetter : MethodName := ⟨RX4, "isLetter", "(I)Z"⟩
abbrev cX4_isDigit : ByteArray := prog_6_method_20_code
def yX4_isDigit : MethodName := ⟨RX4, "isDigit", "(I)Z"⟩
def RX5 : String := "StepsBeyond$Reckoner"
def TX5 : u_T := fun k => match k with
  | 0 => ("StepsBeyond$Reckoner", "facts", "[I", true)
  | 1 => ("StepsBeyond$Reckoner", "stack", "[I", true)
  | _ => ("StepsBeyond$Reckoner", "top", "I", false)
def tyX5 : Nat → FieldType := fun k => match k with
  | 0 => .array .int
  | 1 => .array .int
  | _ => .int
abbrev wsX50 : List Cond := u_ws RX5 TX5 3
theorem nmX5 : ∀ a, a < 3 → ∀ b, b < 3 → a ≠ b → (TX5 a).2.1 ≠ (TX5 b).2.1 := by decide +kernel
theorem tyX5_ok : ∀ k, k < 3 → parseFieldDescriptor (TX5 k).2.2.1 = some (tyX5 k) := by decide +kernel
abbrev cX5_init : ByteArray := prog_7_method_1_code
def yX5_init : MethodName := ⟨RX5, "<init>", "()V"⟩
abbrev cX5_tellPair : ByteArray := prog_7_method_2_code
def yX5_tellPair : MethodName := ⟨RX5, "tellPair", "(III)V"⟩
abbrev cX5_tellAll : ByteArray := prog_7_method_3_code
def yX5_tellAll : MethodName := ⟨RX5, "tellAll", "(III)V"⟩
abbrev cX5_worth : ByteArray := prog_7_method_4_code
def yX5_worth : MethodName := ⟨RX5, "worth", "([I)I"⟩
abbrev cX5_push : ByteArray := prog_7_method_5_code
def yX5_push : MethodName := ⟨RX5, "push", "(I)V"⟩
abbrev cX5_turnTop : ByteArray := prog_7_method_6_code
def yX5_turnTop : MethodName := ⟨RX5, "turnTop", "(I)V"⟩
abbrev cX5_joinTwo : ByteArray := prog_7_method_7_code
def yX5_joinTwo : MethodName := ⟨RX5, "joinTwo", "(I)V"⟩
def RX6 : String := "StepsBeyond$Shapes"
def TX6 : u_T := fun k => match k with
  | 0 => ("StepsBeyond$Shapes", "kinds", "[I", true)
  | 1 => ("StepsBeyond$Shapes", "homes", "[I", true)
  | 2 => ("StepsBeyond$Shapes", "mores", "[I", true)
  | _ => ("StepsBeyond$Shapes", "number", "I", false)
def tyX6 : Nat → FieldType := fun k => match k with
  | 0 => .array .int
  | 1 => .array .int
  | 2 => .array .int
  | _ => .int
abbrev wsX60 : List Cond := u_ws RX6 TX6 4
theorem nmX6 : ∀ a, a < 4 → ∀ b, b < 4 → a ≠ b → (TX6 a).2.1 ≠ (TX6 b).2.1 := by decide +kernel
theorem tyX6_ok : ∀ k, k < 4 → parseFieldDescriptor (TX6 k).2.2.1 = some (tyX6 k) := by decide +kernel
abbrev cX6_init : ByteArray := prog_8_method_1_code
def yX6_init : MethodName := ⟨RX6, "<init>", "()V"⟩
abbrev cX6_knows : ByteArray := prog_8_method_2_code
def yX6_knows : MethodName := ⟨RX6, "knows", "(I)Z"⟩
abbrev cX6_add : ByteArray := prog_8_method_3_code
def yX6_add : MethodName := ⟨RX6, "add", "(III)I"⟩
def RX7 : String := "StepsBeyond$Sheets"
def TX7 : u_T := fun k => match k with
  | 0 => ("StepsBeyond$Sheets", "rows", "[[I", true)
  | 1 => ("StepsBeyond$Sheets", "sorts", "[I", true)
  | _ => ("StepsBeyond$Sheets", "lengths", "[I", true)
def tyX7 : Nat → FieldType := fun k => match k with
  | 0 => .array (.array .int)
  | 1 => .array .int
  | _ => .array .int
abbrev wsX70 : List Cond := u_ws RX7 TX7 3
theorem nmX7 : ∀ a, a < 3 → ∀ b, b < 3 → a ≠ b → (TX7 a).2.1 ≠ (TX7 b).2.1 := by decide +kernel
theorem tyX7_ok : ∀ k, k < 3 → parseFieldDescriptor (TX7 k).2.2.1 = some (tyX7 k) := by decide +kernel
abbrev cX7_init : ByteArray := prog_9_method_1_code
def yX7_init : MethodName := ⟨RX7, "<init>", "()V"⟩
abbrev cX7_renew : ByteArray := prog_9_method_2_code
def yX7_renew : MethodName := ⟨RX7, "renew", "(III)V"⟩
abbrev cX7_isMissing : ByteArray := prog_9_method_3_code
def yX7_isMissing : MethodName := ⟨RX7, "isMissing", "(I)Z"⟩
abbrev cX7_hasRun : ByteArray := prog_9_method_4_code
def yX7_hasRun : MethodName := ⟨RX7, "hasRun", "(III)Z"⟩
abbrev cX7_put : ByteArray := prog_9_method_5_code
def yX7_put : MethodName := ⟨RX7, "put", "(III)V"⟩
def RX8 : String := "StepsBeyond$Texts"
def TX8 : u_T := fun k => match k with
  | 0 => ("StepsBeyond$Texts", "nearCodes", "[[I", true)
  | 1 => ("StepsBeyond$Texts", "farCodes", "[[I", true)
  | _ => ("StepsBeyond$Texts", "number", "I", false)
def tyX8 : Nat → FieldType := fun k => match k with
  | 0 => .array (.array .int)
  | 1 => .array (.array .int)
  | _ => .int
abbrev wsX80 : List Cond := u_ws RX8 TX8 3
theorem nmX8 : ∀ a, a < 3 → ∀ b, b < 3 → a ≠ b → (TX8 a).2.1 ≠ (TX8 b).2.1 := by decide +kernel
theorem tyX8_ok : ∀ k, k < 3 → parseFieldDescriptor (TX8 k).2.2.1 = some (tyX8 k) := by decide +kernel
abbrev cX8_init : ByteArray := prog_10_method_1_code
def yX8_init : MethodName := ⟨RX8, "<init>", "()V"⟩
abbrev cX8_knows : ByteArray := prog_10_method_2_code
def yX8_knows : MethodName := ⟨RX8, "knows", "(I)Z"⟩
abbrev cX8_add : ByteArray := prog_10_method_3_code
def yX8_add : MethodName := ⟨RX8, "add", "(LStepsBeyond$Reader;)I"⟩
def RX9 : String := "StepsBeyond$Village"
def TX9 : u_T := fun k => match k with
  | 0 => ("StepsBeyond$Village", "places", "[I", true)
  | 1 => ("StepsBeyond$Village", "huts", "[I", true)
  | 2 => ("StepsBeyond$Village", "joined", "[I", true)
  | 3 => ("StepsBeyond$Village", "looked", "[I", true)
  | 4 => ("StepsBeyond$Village", "reckoner", "LStepsBeyond$Reckoner;", true)
  | 5 => ("StepsBeyond$Village", "nearCode", "[I", false)
  | 6 => ("StepsBeyond$Village", "farCode", "[I", false)
  | 7 => ("StepsBeyond$Village", "number", "I", false)
  | _ => ("StepsBeyond$Village", "ravines", "I", false)
def tyX9 : Nat → FieldType := fun k => match k with
  | 0 => .array .int
  | 1 => .array .int
  | 2 => .array .int
  | 3 => .array .int
  | 4 => .object "StepsBeyond$Reckoner"
  | 5 => .array .int
  | 6 => .array .int
  | 7 => .int
  | _ => .int
abbrev wsX90 : List Cond := u_ws RX9 TX9 9
theorem nmX9 : ∀ a, a < 9 → ∀ b, b < 9 → a ≠ b → (TX9 a).2.1 ≠ (TX9 b).2.1 := by decide +kernel
theorem tyX9_ok : ∀ k, k < 9 → parseFieldDescriptor (TX9 k).2.2.1 = some (tyX9 k) := by decide +kernel
abbrev cX9_init : ByteArray := prog_11_method_1_code
def yX9_init : MethodName := ⟨RX9, "<init>", "()V"⟩
abbrev cX9_knows : ByteArray := prog_11_method_2_code
def yX9_knows : MethodName := ⟨RX9, "knows", "(I)Z"⟩
abbrev cX9_add : ByteArray := prog_11_method_3_code
def yX9_add : MethodName := ⟨RX9, "add", "(II)I"⟩
abbrev cX9_obey : ByteArray := prog_11_method_4_code
def yX9_obey : MethodName := ⟨RX9, "obey", "([I[I)V"⟩
abbrev cX9_joinAll : ByteArray := prog_11_method_5_code
def yX9_joinAll : MethodName := ⟨RX9, "joinAll", "()V"⟩
abbrev cX9_areNear : ByteArray := prog_11_method_6_code
def yX9_areNear : MethodName := ⟨RX9, "areNear", "(III)Z"⟩
abbrev cX9_farWith : ByteArray := prog_11_method_7_code
def yX9_farWith : MethodName := ⟨RX9, "farWith", "(I)I"⟩
abbrev cX9_townOf : ByteArray := prog_11_method_8_code
def yX9_townOf : MethodName := ⟨RX9, "townOf", "(I)I"⟩
abbrev cX9_spreadFrom : ByteArray := prog_11_method_9_code
def yX9_spreadFrom : MethodName := ⟨RX9, "spreadFrom", "(II)I"⟩
abbrev cX9_heldBy : ByteArray := prog_11_method_10_code
def yX9_heldBy : MethodName := ⟨RX9, "heldBy", "(I)I"⟩
abbrev cX9_countTowns : ByteArray := prog_11_method_11_code
def yX9_countTowns : MethodName := ⟨RX9, "countTowns", "()I"⟩
abbrev cX9_shedFor : ByteArray := prog_11_method_12_code
def yX9_shedFor : MethodName := ⟨RX9, "shedFor", "(II)I"⟩
abbrev cX9_hutJoins : ByteArray := prog_11_method_13_code
def yX9_hutJoins : MethodName := ⟨RX9, "hutJoins", "(II)Z"⟩
abbrev cX9_hutIsNear : ByteArray := prog_11_method_14_code
def yX9_hutIsNear : MethodName := ⟨RX9, "hutIsNear", "(II)Z"⟩
abbrev cX9_roundsTo : ByteArray := prog_11_method_15_code
def yX9_roundsTo : MethodName := ⟨RX9, "roundsTo", "(III)I"⟩
abbrev cX9_heldNext : ByteArray := prog_11_method_16_code
def yX9_heldNext : MethodName := ⟨RX9, "heldNext", "(II)I"⟩
abbrev cX9_isByOne : ByteArray := prog_11_method_17_code
def yX9_isByOne : MethodName := ⟨RX9, "isByOne", "(III)Z"⟩
def RX10 : String := "StepsBeyond"
def TX10 : u_T := fun k => match k with
  | 0 => ("StepsBeyond", "reader", "LStepsBeyond$Reader;", true)
  | 1 => ("StepsBeyond", "texts", "LStepsBeyond$Texts;", true)
  | 2 => ("StepsBeyond", "village", "LStepsBeyond$Village;", true)
  | 3 => ("StepsBeyond", "land", "LStepsBeyond$Land;", true)
  | 4 => ("StepsBeyond", "shapes", "LStepsBeyond$Shapes;", true)
  | 5 => ("StepsBeyond", "people", "LStepsBeyond$People;", true)
  | 6 => ("StepsBeyond", "kept", "LStepsBeyond$Image;", true)
  | 7 => ("StepsBeyond", "sheets", "LStepsBeyond$Sheets;", true)
  | 8 => ("StepsBeyond", "area", "LStepsBeyond$Area;", true)
  | 9 => ("StepsBeyond", "otherArea", "LStepsBeyond$Area;", true)
  | 10 => ("StepsBeyond", "walked", "[I", true)
  | 11 => ("StepsBeyond", "otherWalked", "[I", true)
  | 12 => ("StepsBeyond", "wellPlaces", "[I", true)
  | 13 => ("StepsBeyond", "wellCount", "I", false)
  | 14 => ("StepsBeyond", "lawNumber", "I", false)
  | _ => ("StepsBeyond", "loafPlace", "I", false)
def tyX10 : Nat → FieldType := fun k => match k with
  | 0 => .object "StepsBeyond$Reader"
  | 1 => .object "StepsBeyond$Texts"
  | 2 => .object "StepsBeyond$Village"
  | 3 => .object "StepsBeyond$Land"
  | 4 => .object "StepsBeyond$Shapes"
  | 5 => .object "StepsBeyond$People"
  | 6 => .object "StepsBeyond$Image"
  | 7 => .object "StepsBeyond$Sheets"
  | 8 => .object "StepsBeyond$Area"
  | 9 => .object "StepsBeyond$Area"
  | 10 => .array .int
  | 11 => .array .int
  | 12 => .array .int
  | 13 => .int
  | 14 => .int
  | _ => .int
abbrev wsX100 : List Cond := u_ws RX10 TX10 16
theorem nmX10 : ∀ a, a < 16 → ∀ b, b < 16 → a ≠ b → (TX10 a).2.1 ≠ (TX10 b).2.1 := by decide +kernel
theorem tyX10_ok : ∀ k, k < 16 → parseFieldDescriptor (TX10 k).2.2.1 = some (tyX10 k) := by decide +kernel
abbrev cX10_init : ByteArray := prog_1_method_1_code
def yX10_init : MethodName := ⟨RX10, "<init>", "()V"⟩
abbrev cX10_house : ByteArray := prog_1_method_2_code
def yX10_house : MethodName := ⟨RX10, "house", "(II)I"⟩
abbrev cX10_hut : ByteArray := prog_1_method_3_code
def yX10_hut : MethodName := ⟨RX10, "hut", "(II)I"⟩
abbrev cX10_near : ByteArray := prog_1_method_4_code
def yX10_near : MethodName := ⟨RX10, "near", "(II)I"⟩
abbrev cX10_far : ByteArray := prog_1_method_5_code
def yX10_far : MethodName := ⟨RX10, "far", "(I)I"⟩
abbrev cX10_town : ByteArray := prog_1_method_6_code
def yX10_town : MethodName := ⟨RX10, "town", "(I)I"⟩
abbrev cX10_burn : ByteArray := prog_1_method_7_code
def yX10_burn : MethodName := ⟨RX10, "burn", "(I)I"⟩
abbrev cX10_feed : ByteArray := prog_1_method_8_code
def yX10_feed : MethodName := ⟨RX10, "feed", "(JI)I"⟩
abbrev cX10_text : ByteArray := prog_1_method_9_code
def yX10_text : MethodName := ⟨RX10, "text", "()I"⟩
abbrev cX10_force : ByteArray := prog_1_method_10_code
def yX10_force : MethodName := ⟨RX10, "force", "(I)I"⟩
abbrev cX10_shape : ByteArray := prog_1_method_11_code
def yX10_shape : MethodName := ⟨RX10, "shape", "(III)I"⟩
abbrev cX10_loaf : ByteArray := prog_1_method_12_code
def yX10_loaf : MethodName := ⟨RX10, "loaf", "(I)I"⟩
abbrev cX10_shapeTold : ByteArray := prog_1_method_13_code
def yX10_shapeTold : MethodName := ⟨RX10, "shapeTold", "(II)I"⟩
abbrev cX10_within : ByteArray := prog_1_method_14_code
def yX10_within : MethodName := ⟨RX10, "within", "(II)I"⟩
abbrev cX10_size : ByteArray := prog_1_method_15_code
def yX10_size : MethodName := ⟨RX10, "size", "(I)I"⟩
abbrev cX10_both : ByteArray := prog_1_method_16_code
def yX10_both : MethodName := ⟨RX10, "both", "(III)I"⟩
abbrev cX10_laid : ByteArray := prog_1_method_17_code
def yX10_laid : MethodName := ⟨RX10, "laid", "(II)I"⟩
abbrev cX10_ravine : ByteArray := prog_1_method_18_code
def yX10_ravine : MethodName := ⟨RX10, "ravine", "(IIIII)I"⟩
abbrev cX10_steps : ByteArray := prog_1_method_19_code
def yX10_steps : MethodName := ⟨RX10, "steps", "(II)I"⟩
abbrev cX10_person : ByteArray := prog_1_method_20_code
def yX10_person : MethodName := ⟨RX10, "person", "(II)I"⟩
abbrev cX10_moves : ByteArray := prog_1_method_21_code
def yX10_moves : MethodName := ⟨RX10, "moves", "(II)I"⟩
abbrev cX10_personTold : ByteArray := prog_1_method_22_code
def yX10_personTold : MethodName := ⟨RX10, "personTold", "(II)I"⟩
abbrev cX10_well : ByteArray := prog_1_method_23_code
def yX10_well : MethodName := ⟨RX10, "well", "(I)I"⟩
abbrev cX10_may : ByteArray := prog_1_method_24_code
def yX10_may : MethodName := ⟨RX10, "may", "(III)I"⟩
abbrev cX10_wells : ByteArray := prog_1_method_25_code
def yX10_wells : MethodName := ⟨RX10, "wells", "(II)I"⟩
abbrev cX10_who : ByteArray := prog_1_method_26_code
def yX10_who : MethodName := ⟨RX10, "who", "(II)I"⟩
abbrev cX10_meet : ByteArray := prog_1_method_27_code
def yX10_meet : MethodName := ⟨RX10, "meet", "(III)I"⟩
abbrev cX10_shed : ByteArray := prog_1_method_28_code
def yX10_shed : MethodName := ⟨RX10, "shed", "(II)I"⟩
abbrev cX10_bridge : ByteArray := prog_1_method_29_code
def yX10_bridge : MethodName := ⟨RX10, "bridge", "(III)I"⟩
abbrev cX10_count : ByteArray := prog_1_method_30_code
def yX10_count : MethodName := ⟨RX10, "count", "(I)I"⟩
abbrev cX10_image : ByteArray := prog_1_method_31_code
def yX10_image : MethodName := ⟨RX10, "image", "()I"⟩
abbrev cX10_back : ByteArray := prog_1_method_32_code
def yX10_back : MethodName := ⟨RX10, "back", "()I"⟩
abbrev cX10_sheet : ByteArray := prog_1_method_33_code
def yX10_sheet : MethodName := ⟨RX10, "sheet", "(III)I"⟩
abbrev cX10_cell : ByteArray := prog_1_method_34_code
def yX10_cell : MethodName := ⟨RX10, "cell", "(III)I"⟩
abbrev cX10_copy : ByteArray := prog_1_method_35_code
def yX10_copy : MethodName := ⟨RX10, "copy", "(IIIII)I"⟩
abbrev cX10_houses : ByteArray := prog_1_method_36_code
def yX10_houses : MethodName := ⟨RX10, "houses", "(IIII)I"⟩
abbrev cX10_taken : ByteArray := prog_1_method_37_code
def yX10_taken : MethodName := ⟨RX10, "taken", "(II)I"⟩
abbrev cX10_isFrom : ByteArray := prog_1_method_38_code
def yX10_isFrom : MethodName := ⟨RX10, "isFrom", "(III)Z"⟩
abbrev cX10_isPlace : ByteArray := prog_1_method_39_code
def yX10_isPlace : MethodName := ⟨RX10, "isPlace", "(I)Z"⟩
abbrev cX10_isBit : ByteArray := prog_1_method_40_code
def yX10_isBit : MethodName := ⟨RX10, "isBit", "(I)Z"⟩
abbrev cX10_isSheet : ByteArray := prog_1_method_41_code
def yX10_isSheet : MethodName := ⟨RX10, "isSheet", "(I)Z"⟩
abbrev cX10_has : ByteArray := prog_1_method_42_code
def yX10_has : MethodName := ⟨RX10, "has", "(II)Z"⟩
abbrev cX10_apart : ByteArray := prog_1_method_43_code
def yX10_apart : MethodName := ⟨RX10, "apart", "(II)I"⟩
abbrev cX10_isOfKind : ByteArray := prog_1_method_44_code
def yX10_isOfKind : MethodName := ⟨RX10, "isOfKind", "(II)Z"⟩
abbrev cX10_enforce : ByteArray := prog_1_method_45_code
def yX10_enforce : MethodName := ⟨RX10, "enforce", "(I)V"⟩
abbrev cX10_reachOf : ByteArray := prog_1_method_46_code
def yX10_reachOf : MethodName := ⟨RX10, "reachOf", "(I)I"⟩
abbrev cX10_middleOf : ByteArray := prog_1_method_47_code
def yX10_middleOf : MethodName := ⟨RX10, "middleOf", "(I)I"⟩
abbrev cX10_measure : ByteArray := prog_1_method_48_code
def yX10_measure : MethodName := ⟨RX10, "measure", "(LStepsBeyond$Area;I)V"⟩
abbrev cX10_isOut : ByteArray := prog_1_method_49_code
def yX10_isOut : MethodName := ⟨RX10, "isOut", "(I)Z"⟩
abbrev cX10_whyNot : ByteArray := prog_1_method_50_code
def yX10_whyNot : MethodName := ⟨RX10, "whyNot", "(IIII)I"⟩
abbrev cX10_meetingPlace : ByteArray := prog_1_method_51_code
def yX10_meetingPlace : MethodName := ⟨RX10, "meetingPlace", "(II)I"⟩
abbrev cX10_houseTaken : ByteArray := prog_1_method_52_code
def yX10_houseTaken : MethodName := ⟨RX10, "houseTaken", "(II)I"⟩
abbrev cX10_shapeTaken : ByteArray := prog_1_method_53_code
def yX10_shapeTaken : MethodName := ⟨RX10, "shapeTaken", "(II)I"⟩
def RX11 : String := "StepsBeyondModel"
def TX11 : u_T := fun k => match k with
  | 0 => ("StepsBeyondModel", "houses", "I", false)
  | 1 => ("StepsBeyondModel", "place", "[I", true)
  | 2 => ("StepsBeyondModel", "isHut", "[I", true)
  | 3 => ("StepsBeyondModel", "shapes", "I", false)
  | 4 => ("StepsBeyondModel", "kind", "[I", true)
  | 5 => ("StepsBeyondModel", "houseOf", "[I", true)
  | 6 => ("StepsBeyondModel", "more", "[I", true)
  | 7 => ("StepsBeyondModel", "loaf", "I", false)
  | 8 => ("StepsBeyondModel", "ravines", "I", false)
  | 9 => ("StepsBeyondModel", "ravineWay", "[I", true)
  | 10 => ("StepsBeyondModel", "ravineAt", "[I", true)
  | 11 => ("StepsBeyondModel", "ravineFrom", "[I", true)
  | 12 => ("StepsBeyondModel", "ravineTo", "[I", true)
  | 13 => ("StepsBeyondModel", "ravineWide", "[I", true)
  | 14 => ("StepsBeyondModel", "people", "I", false)
  | 15 => ("StepsBeyondModel", "personAt", "[I", true)
  | 16 => ("StepsBeyondModel", "bound", "[I", true)
  | 17 => ("StepsBeyondModel", "wells", "I", false)
  | 18 => ("StepsBeyondModel", "wellAt", "[I", true)
  | 19 => ("StepsBeyondModel", "tape", "[I", true)
  | 20 => ("StepsBeyondModel", "taped", "I", false)
  | 21 => ("StepsBeyondModel", "codes", "[I", true)
  | 22 => ("StepsBeyondModel", "starts", "[I", true)
  | 23 => ("StepsBeyondModel", "texts", "I", false)
  | 24 => ("StepsBeyondModel", "rule", "I", false)
  | 25 => ("StepsBeyondModel", "hasImage", "Z", false)
  | 26 => ("StepsBeyondModel", "imageHouses", "I", false)
  | 27 => ("StepsBeyondModel", "imagePeople", "I", false)
  | 28 => ("StepsBeyondModel", "imageLoaf", "I", false)
  | 29 => ("StepsBeyondModel", "imageRule", "I", false)
  | 30 => ("StepsBeyondModel", "imageHut", "[I", true)
  | 31 => ("StepsBeyondModel", "imageAt", "[I", true)
  | 32 => ("StepsBeyondModel", "sheetSort", "[I", true)
  | 33 => ("StepsBeyondModel", "sheetSize", "[I", true)
  | 34 => ("StepsBeyondModel", "cells", "[I", true)
  | 35 => ("StepsBeyondModel", "at", "I", false)
  | 36 => ("StepsBeyondModel", "begun", "I", false)
  | 37 => ("StepsBeyondModel", "token", "I", false)
  | 38 => ("StepsBeyondModel", "value", "I", false)
  | 39 => ("StepsBeyondModel", "words", "[J", true)
  | 40 => ("StepsBeyondModel", "held", "[I", true)
  | 41 => ("StepsBeyondModel", "heldMany", "I", false)
  | 42 => ("StepsBeyondModel", "opens", "I", false)
  | 43 => ("StepsBeyondModel", "out", "I", false)
  | 44 => ("StepsBeyondModel", "stack", "[I", true)
  | 45 => ("StepsBeyondModel", "named", "[I", true)
  | 46 => ("StepsBeyondModel", "nowReach", "I", false)
  | 47 => ("StepsBeyondModel", "nowTown", "I", false)
  | 48 => ("StepsBeyondModel", "lowX", "I", false)
  | 49 => ("StepsBeyondModel", "highX", "I", false)
  | 50 => ("StepsBeyondModel", "lowY", "I", false)
  | 51 => ("StepsBeyondModel", "highY", "I", false)
  | 52 => ("StepsBeyondModel", "inOne", "[Z", true)
  | 53 => ("StepsBeyondModel", "inOther", "[Z", true)
  | 54 => ("StepsBeyondModel", "least", "[I", true)
  | 55 => ("StepsBeyondModel", "ring", "[I", true)
  | 56 => ("StepsBeyondModel", "waits", "[Z", true)
  | 57 => ("StepsBeyondModel", "ringFrom", "I", false)
  | 58 => ("StepsBeyondModel", "ringMany", "I", false)
  | _ => ("StepsBeyondModel", "kept", "[I", true)
def tyX11 : Nat → FieldType := fun k => match k with
  | 0 => .int
  | 1 => .array .int
  | 2 => .array .int
  | 3 => .int
  | 4 => .array .int
  | 5 => .array .int
  | 6 => .array .int
  | 7 => .int
  | 8 => .int
  | 9 => .array .int
  | 10 => .array .int
  | 11 => .array .int
  | 12 => .array .int
  | 13 => .array .int
  | 14 => .int
  | 15 => .array .int
  | 16 => .array .int
  | 17 => .int
  | 18 => .array .int
  | 19 => .array .int
  | 20 => .int
  | 21 => .array .int
  | 22 => .array .int
  | 23 => .int
  | 24 => .int
  | 25 => .boolean
  | 26 => .int
  | 27 => .int
  | 28 => .int
  | 29 => .int
  | 30 => .array .int
  | 31 => .array .int
  | 32 => .array .int
  | 33 => .array .int
  | 34 => .array .int
  | 35 => .int
  | 36 => .int
  | 37 => .int
  | 38 => .int
  | 39 => .array .long
  | 40 => .array .int
  | 41 => .int
  | 42 => .int
  | 43 => .int
  | 44 => .array .int
  | 45 => .array .int
  | 46 => .int
  | 47 => .int
  | 48 => .int
  | 49 => .int
  | 50 => .int
  | 51 => .int
  | 52 => .array .boolean
  | 53 => .array .boolean
  | 54 => .array .int
  | 55 => .array .int
  | 56 => .array .boolean
  | 57 => .int
  | 58 => .int
  | _ => .array .int
abbrev wsX110 : List Cond := u_ws RX11 TX11 60
theorem nmX11 : ∀ a, a < 60 → ∀ b, b < 60 → a ≠ b → (TX11 a).2.1 ≠ (TX11 b).2.1 := by decide +kernel
theorem tyX11_ok : ∀ k, k < 60 → parseFieldDescriptor (TX11 k).2.2.1 = some (tyX11 k) := by decide +kernel
abbrev cX11_init : ByteArray := prog_13_method_1_code
def yX11_init : MethodName := ⟨RX11, "<init>", "()V"⟩
abbrev cX11_first : ByteArray := prog_13_method_2_code
def yX11_first : MethodName := ⟨RX11, "first", "(IIIII)V"⟩
abbrev cX11_in : ByteArray := prog_13_method_4_code
def yX11_in : MethodName := ⟨RX11, "in", "(III)Z"⟩
abbrev cX11_isPlace : ByteArray := prog_13_method_5_code
def yX11_isPlace : MethodName := ⟨RX11, "isPlace", "(I)Z"⟩
abbrev cX11_isHouse : ByteArray := prog_13_method_6_code
def yX11_isHouse : MethodName := ⟨RX11, "isHouse", "(I)Z"⟩
abbrev cX11_abs : ByteArray := prog_13_method_7_code
def yX11_abs : MethodName := ⟨RX11, "abs", "(I)I"⟩
abbrev cX11_apart : ByteArray := prog_13_method_8_code
def yX11_apart : MethodName := ⟨RX11, "apart", "(II)I"⟩
abbrev cX11_house : ByteArray := prog_13_method_9_code
def yX11_house : MethodName := ⟨RX11, "house", "(II)I"⟩
abbrev cX11_hut : ByteArray := prog_13_method_10_code
def yX11_hut : MethodName := ⟨RX11, "hut", "(II)I"⟩
abbrev cX11_feed : ByteArray := prog_13_method_11_code
def yX11_feed : MethodName := ⟨RX11, "feed", "(JI)I"⟩
abbrev cX11_letters : ByteArray := prog_13_method_12_code
def yX11_letters : MethodName := ⟨RX11, "letters", "()J"⟩
abbrev cX11_next : ByteArray := prog_13_method_13_code
def yX11_next : MethodName := ⟨RX11, "next", "()V"⟩
abbrev cX11_rank : ByteArray := prog_13_method_14_code
def yX11_rank : MethodName := ⟨RX11, "rank", "(I)I"⟩
abbrev cX11_puts : ByteArray := prog_13_method_15_code
def yX11_puts : MethodName := ⟨RX11, "puts", "(I)V"⟩
abbrev cX11_unwinds : ByteArray := prog_13_method_16_code
def yX11_unwinds : MethodName := ⟨RX11, "unwinds", "(I)V"⟩
abbrev cX11_holds : ByteArray := prog_13_method_17_code
def yX11_holds : MethodName := ⟨RX11, "holds", "(I)V"⟩
abbrev cX11_opensOne : ByteArray := prog_13_method_18_code
def yX11_opensOne : MethodName := ⟨RX11, "opensOne", "(I)Z"⟩
abbrev cX11_between : ByteArray := prog_13_method_19_code
def yX11_between : MethodName := ⟨RX11, "between", "(I)Z"⟩
abbrev cX11_signOf : ByteArray := prog_13_method_20_code
def yX11_signOf : MethodName := ⟨RX11, "signOf", "()I"⟩
abbrev cX11_eRead : ByteArray := prog_13_method_21_code
def yX11_eRead : MethodName := ⟨RX11, "eRead", "()Z"⟩
abbrev cX11_text : ByteArray := prog_13_method_22_code
def yX11_text : MethodName := ⟨RX11, "text", "()I"⟩
abbrev cX11_two : ByteArray := prog_13_method_23_code
def yX11_two : MethodName := ⟨RX11, "two", "(III)I"⟩
abbrev cX11_worth : ByteArray := prog_13_method_24_code
def yX11_worth : MethodName := ⟨RX11, "worth", "(I)I"⟩
abbrev cX11_force : ByteArray := prog_13_method_25_code
def yX11_force : MethodName := ⟨RX11, "force", "(I)I"⟩
abbrev cX11_areNear : ByteArray := prog_13_method_26_code
def yX11_areNear : MethodName := ⟨RX11, "areNear", "(III)Z"⟩
abbrev cX11_nearTwo : ByteArray := prog_13_method_27_code
def yX11_nearTwo : MethodName := ⟨RX11, "nearTwo", "(II)Z"⟩
abbrev cX11_near : ByteArray := prog_13_method_28_code
def yX11_near : MethodName := ⟨RX11, "near", "(II)I"⟩
abbrev cX11_farBy : ByteArray := prog_13_method_29_code
def yX11_farBy : MethodName := ⟨RX11, "farBy", "(I)I"⟩
abbrev cX11_far : ByteArray := prog_13_method_30_code
def yX11_far : MethodName := ⟨RX11, "far", "(I)I"⟩
abbrev cX11_reached : ByteArray := prog_13_method_31_code
def yX11_reached : MethodName := ⟨RX11, "reached", "(II)I"⟩
abbrev cX11_all : ByteArray := prog_13_method_32_code
def yX11_all : MethodName := ⟨RX11, "all", "()I"⟩
abbrev cX11_townOf : ByteArray := prog_13_method_33_code
def yX11_townOf : MethodName := ⟨RX11, "townOf", "(I)I"⟩
abbrev cX11_town : ByteArray := prog_13_method_34_code
def yX11_town : MethodName := ⟨RX11, "town", "(I)I"⟩
abbrev cX11_lowBit : ByteArray := prog_13_method_35_code
def yX11_lowBit : MethodName := ⟨RX11, "lowBit", "(I)I"⟩
abbrev cX11_burn : ByteArray := prog_13_method_36_code
def yX11_burn : MethodName := ⟨RX11, "burn", "(I)I"⟩
abbrev cX11_shape : ByteArray := prog_13_method_37_code
def yX11_shape : MethodName := ⟨RX11, "shape", "(III)I"⟩
abbrev cX11_isShape : ByteArray := prog_13_method_38_code
def yX11_isShape : MethodName := ⟨RX11, "isShape", "(I)Z"⟩
abbrev cX11_loaf : ByteArray := prog_13_method_39_code
def yX11_loaf : MethodName := ⟨RX11, "loaf", "(I)I"⟩
abbrev cX11_reach : ByteArray := prog_13_method_40_code
def yX11_reach : MethodName := ⟨RX11, "reach", "(I)I"⟩
abbrev cX11_middle : ByteArray := prog_13_method_41_code
def yX11_middle : MethodName := ⟨RX11, "middle", "(I)I"⟩
abbrev cX11_shapeTold : ByteArray := prog_13_method_42_code
def yX11_shapeTold : MethodName := ⟨RX11, "shapeTold", "(II)I"⟩
abbrev cX11_spans : ByteArray := prog_13_method_43_code
def yX11_spans : MethodName := ⟨RX11, "spans", "(I)V"⟩
abbrev cX11_looks : ByteArray := prog_13_method_44_code
def yX11_looks : MethodName := ⟨RX11, "looks", "(I)V"⟩
abbrev cX11_isBox : ByteArray := prog_13_method_45_code
def yX11_isBox : MethodName := ⟨RX11, "isBox", "(II)Z"⟩
abbrev cX11_byHouses : ByteArray := prog_13_method_46_code
def yX11_byHouses : MethodName := ⟨RX11, "byHouses", "(I)Z"⟩
abbrev cX11_isIn : ByteArray := prog_13_method_47_code
def yX11_isIn : MethodName := ⟨RX11, "isIn", "(II)Z"⟩
abbrev cX11_within : ByteArray := prog_13_method_48_code
def yX11_within : MethodName := ⟨RX11, "within", "(II)I"⟩
abbrev cX11_marksOne : ByteArray := prog_13_method_49_code
def yX11_marksOne : MethodName := ⟨RX11, "marksOne", "(I)I"⟩
abbrev cX11_marksOther : ByteArray := prog_13_method_50_code
def yX11_marksOther : MethodName := ⟨RX11, "marksOther", "(I)V"⟩
abbrev cX11_size : ByteArray := prog_13_method_51_code
def yX11_size : MethodName := ⟨RX11, "size", "(I)I"⟩
abbrev cX11_both : ByteArray := prog_13_method_52_code
def yX11_both : MethodName := ⟨RX11, "both", "(III)I"⟩
abbrev cX11_laid : ByteArray := prog_13_method_53_code
def yX11_laid : MethodName := ⟨RX11, "laid", "(II)I"⟩
abbrev cX11_ravine : ByteArray := prog_13_method_54_code
def yX11_ravine : MethodName := ⟨RX11, "ravine", "(IIIII)I"⟩
abbrev cX11_cost : ByteArray := prog_13_method_55_code
def yX11_cost : MethodName := ⟨RX11, "cost", "(III)I"⟩
abbrev cX11_tries : ByteArray := prog_13_method_56_code
def yX11_tries : MethodName := ⟨RX11, "tries", "(III)V"⟩
abbrev cX11_spreads : ByteArray := prog_13_method_57_code
def yX11_spreads : MethodName := ⟨RX11, "spreads", "(I)V"⟩
abbrev cX11_steps : ByteArray := prog_13_method_58_code
def yX11_steps : MethodName := ⟨RX11, "steps", "(II)I"⟩
abbrev cX11_person : ByteArray := prog_13_method_59_code
def yX11_person : MethodName := ⟨RX11, "person", "(II)I"⟩
abbrev cX11_isPerson : ByteArray := prog_13_method_60_code
def yX11_isPerson : MethodName := ⟨RX11, "isPerson", "(I)Z"⟩
abbrev cX11_moves : ByteArray := prog_13_method_61_code
def yX11_moves : MethodName := ⟨RX11, "moves", "(II)I"⟩
abbrev cX11_isOut : ByteArray := prog_13_method_62_code
def yX11_isOut : MethodName := ⟨RX11, "isOut", "(I)Z"⟩
abbrev cX11_personTold : ByteArray := prog_13_method_63_code
def yX11_personTold : MethodName := ⟨RX11, "personTold", "(II)I"⟩
abbrev cX11_well : ByteArray := prog_13_method_64_code
def yX11_well : MethodName := ⟨RX11, "well", "(I)I"⟩
abbrev cX11_why : ByteArray := prog_13_method_65_code
def yX11_why : MethodName := ⟨RX11, "why", "(III)I"⟩
abbrev cX11_may : ByteArray := prog_13_method_66_code
def yX11_may : MethodName := ⟨RX11, "may", "(III)I"⟩
abbrev cX11_wells : ByteArray := prog_13_method_67_code
def yX11_wells : MethodName := ⟨RX11, "wells", "(II)I"⟩
abbrev cX11_who : ByteArray := prog_13_method_68_code
def yX11_who : MethodName := ⟨RX11, "who", "(II)I"⟩
abbrev cX11_meet : ByteArray := prog_13_method_69_code
def yX11_meet : MethodName := ⟨RX11, "meet", "(III)I"⟩
abbrev cX11_joins : ByteArray := prog_13_method_70_code
def yX11_joins : MethodName := ⟨RX11, "joins", "(II)Z"⟩
abbrev cX11_shed : ByteArray := prog_13_method_71_code
def yX11_shed : MethodName := ⟨RX11, "shed", "(II)I"⟩
abbrev cX11_bridge : ByteArray := prog_13_method_72_code
def yX11_bridge : MethodName := ⟨RX11, "bridge", "(III)I"⟩
abbrev cX11_count : ByteArray := prog_13_method_73_code
def yX11_count : MethodName := ⟨RX11, "count", "(I)I"⟩
abbrev cX11_image : ByteArray := prog_13_method_74_code
def yX11_image : MethodName := ⟨RX11, "image", "()I"⟩
abbrev cX11_back : ByteArray := prog_13_method_75_code
def yX11_back : MethodName := ⟨RX11, "back", "()I"⟩
abbrev cX11_sheet : ByteArray := prog_13_method_76_code
def yX11_sheet : MethodName := ⟨RX11, "sheet", "(III)I"⟩
abbrev cX11_cell : ByteArray := prog_13_method_77_code
def yX11_cell : MethodName := ⟨RX11, "cell", "(III)I"⟩
abbrev cX11_copy : ByteArray := prog_13_method_78_code
def yX11_copy : MethodName := ⟨RX11, "copy", "(IIIII)I"⟩
abbrev cX11_houses : ByteArray := prog_13_method_79_code
def yX11_houses : MethodName := ⟨RX11, "houses", "(IIII)I"⟩
abbrev cX11_isUnder : ByteArray := prog_13_method_80_code
def yX11_isUnder : MethodName := ⟨RX11, "isUnder", "(II)Z"⟩
abbrev cX11_taken : ByteArray := prog_13_method_81_code
def yX11_taken : MethodName := ⟨RX11, "taken", "(II)I"⟩
def RJx145de : String := "java/io/Serializable"
def RJx9f9b0 : String := "java/lang/CharSequence"
def RJx8e188 : String := "java/lang/Cloneable"
def RJxb160c : String := "java/lang/Comparable"
def RJ9 : String := "java/lang/Math"
abbrev cJ9_abs_0f7a4 : ByteArray := prog_15_method_59_code
def yJ9_abs_0f7a4 : MethodName := ⟨RJ9, "abs", "(I)I"⟩
abbrev cJ9_max_7cf53 : ByteArray := prog_15_method_65_code
def yJ9_max_7cf53 : MethodName := ⟨RJ9, "max", "(II)I"⟩
abbrev cJ9_min_7cf53 : ByteArray := prog_15_method_69_code
def yJ9_min_7cf53 : MethodName := ⟨RJ9, "min", "(II)I"⟩
def RJ0 : String := "java/lang/String"
abbrev cJ0_length_8abf5 : ByteArray := prog_16_method_54_code
def yJ0_length_8abf5 : MethodName := ⟨RJ0, "length", "()I"⟩
abbrev cJ0_charAt_5068e : ByteArray := prog_16_method_56_code
def yJ0_charAt_5068e : MethodName := ⟨RJ0, "charAt", "(I)C"⟩
abbrev cJ0_coder_7d493 : ByteArray := prog_16_method_152_code
def yJ0_coder_7d493 : MethodName := ⟨RJ0, "coder", "()B"⟩
abbrev cJ0_isLatin1_aae02 : ByteArray := prog_16_method_154_code
def yJ0_isLatin1_aae02 : MethodName := ⟨RJ0, "isLatin1", "()Z"⟩
abbrev cJ0_checkIndex_df160 : ByteArray := prog_16_method_155_code
def yJ0_checkIndex_df160 : MethodName := ⟨RJ0, "checkIndex", "(II)V"⟩
def RJ1 : String := "java/lang/StringLatin1"
abbrev cJ1_charAt_3b067 : ByteArray := prog_17_method_2_code
def yJ1_charAt_3b067 : MethodName := ⟨RJ1, "charAt", "([BI)C"⟩
def RJ2 : String := "java/lang/StringUTF16"
abbrev cJ2_getChar_3b067 : ByteArray := prog_18_method_5_code
def yJ2_getChar_3b067 : MethodName := ⟨RJ2, "getChar", "([BI)C"⟩
abbrev cJ2_length_9d52b : ByteArray := prog_18_method_6_code
def yJ2_length_9d52b : MethodName := ⟨RJ2, "length", "([B)I"⟩
abbrev cJ2_charAt_3b067 : ByteArray := prog_18_method_83_code
def yJ2_charAt_3b067 : MethodName := ⟨RJ2, "charAt", "([BI)C"⟩
abbrev cJ2_checkIndex_2214a : ByteArray := prog_18_method_91_code
def yJ2_checkIndex_2214a : MethodName := ⟨RJ2, "checkIndex", "(I[B)V"⟩
def RJ10 : String := "java/lang/System"
def RJxfd54e : String := "java/lang/constant/Constable"
def RJx3cf43 : String := "java/lang/constant/ConstantDesc"
def RJ7 : String := "java/util/Arrays"
abbrev cJ7_fill_53178 : ByteArray := prog_20_method_103_code
def yJ7_fill_53178 : MethodName := ⟨RJ7, "fill", "([II)V"⟩
abbrev cJ7_checkLength_df160 : ByteArray := prog_20_method_131_code
def yJ7_checkLength_df160 : MethodName := ⟨RJ7, "checkLength", "(II)V"⟩
abbrev cJ7_copyOfRange_feecc : ByteArray := prog_20_method_136_code
def yJ7_copyOfRange_feecc : MethodName := ⟨RJ7, "copyOfRange", "([III)[I"⟩
abbrev cJ7_copyOfRangeInt_feecc : ByteArray := prog_20_method_137_code
def yJ7_copyOfRangeInt_feecc : MethodName := ⟨RJ7, "copyOfRangeInt", "([III)[I"⟩
def RJ3 : String := "jdk/internal/util/Preconditions"
abbrev cJ3_checkIndex_8e157 : ByteArray := prog_21_method_11_code
def yJ3_checkIndex_8e157 : MethodName := ⟨RJ3, "checkIndex", "(IILjava/util/function/BiFunction;)I"⟩
def RL : String := "StepsBeyondLaw"
abbrev cL_law : ByteArray := code
def yL_law : MethodName := ⟨RL, "law", "([I)Z"⟩

abbrev classes : List vw_C := [(RX0, TX0, 9), (RX1, TX1, 7), (RX2, TX2, 2), (RX3, TX3, 3), (RX4, TX4, 9), (RX5, TX5, 3), (RX6, TX6, 4), (RX7, TX7, 3), (RX8, TX8, 3), (RX9, TX9, 9), (RX10, TX10, 16), (RX11, TX11, 60)]
end
section
/-! THE WALK'S OWN WORDS: V, the machine at a place of a method, over a world and named locals; zM, a method's contract; every row turns V at an instruction into V at the next, and takes with it what is left of the method's pure function (hf). -/
def zW : List Cond := lw_tbl.filter goodWord
abbrev zS : Type := (Nat → Int32) × (Nat → Nat → Int32)
abbrev zD : Type := va_G × ClassId × ClassId × ClassId × ClassId × ((Nat → Prop) → State → Prop)
def zt (d : zD) : List (ClassId × FieldType) := [(d.2.1, .int), (d.2.2.1, .boolean), (d.2.2.2.1, .long), (d.2.2.2.2.1, .array .int)]
def zsg (σ : zS) (k : Nat) (v : Int32) : zS := (upd σ.1 k v, σ.2)
def zsa (σ : zS) (k : Nat) (i : Int32) (v : Int32) : zS := (σ.1, va_up σ.2 k (upd (σ.2 k) i.toNatClampNeg v))
def zlt {α β : Type} (x : α) (f : α → β) : β := f x
def zin {β : Type} (i : Int32) (n : Nat) (x : Option β) : Option β := if i < 0 ∨ n ≤ i.toNatClampNeg then none else x
def znz {β : Type} (y : Int32) (x : Option β) : Option β := if y = 0 then none else x
def zbo {β : Type} (y : Int32) (x : Option β) : Option β := if vp_nar .boolean y = y then x else none
def zbd {α β : Type} (x : Option (α × zS)) (f : α → zS → Option β) : Option β := match x with
  | none => none
  | some q => f q.1 q.2
def zrem (x y : Int32) : Int32 := x - x / y * y
def zshl (x y : Int32) : Int32 := x <<< (y &&& 31)
def zshr (x y : Int32) : Int32 := x >>> (y &&& 31)
def zfu : Nat := 18446744073709551616
def zp : Nat → List (Option Value) → List (Nat × Value)
  | _, [] => []
  | i, none :: t => zp (i + 1) t
  | i, some v :: t => (i, v) :: zp (i + 1) t
theorem zp_mem {v : Value} {i : Nat} : ∀ (lv : List (Option Value)) (k : Nat), (i, v) ∈ zp k lv ↔ ∃ j, i = k + j ∧ lv[j]? = some (some v)
  | [], k => by simp [zp]
  | none :: t, k => by
    rw [zp, zp_mem t (k + 1)]
    constructor
    · rintro ⟨j, h1, h2⟩
      exact ⟨j + 1, by omega, by simpa using h2⟩
    · rintro ⟨j, h1, h2⟩
      cases j with
      | zero => simp at h2
      | succ j => exact ⟨j, by omega, by simpa using h2⟩
  | some w :: t, k => by
    rw [zp, List.mem_cons, zp_mem t (k + 1)]
    constructor
    · rintro (h | ⟨j, h1, h2⟩)
      · cases h
        exact ⟨0, by omega, by simp⟩
      · exact ⟨j + 1, by omega, by simpa using h2⟩
    · rintro ⟨j, h1, h2⟩
      cases j with
      | zero =>
        simp at h2
        subst h2
        exact Or.inl (by simp at h1; rw [h1])
      | succ j => exact Or.inr ⟨j, by omega, by simpa using h2⟩
def zh (ls : Array Slot) (nL : Nat) (lv : List (Option Value)) : Prop := lv_has ls nL (zp 0 lv)
theorem zh_at {ls : Array Slot} {nL : Nat} {lv : List (Option Value)} (h : zh ls nL lv) {i : Nat} {v : Value} (hk : lv[i]? = some (some v)) : ls[i]? = some (.val v) := h.2.2 (i, v) ((zp_mem lv 0).mpr ⟨i, by omega, hk⟩)
theorem zh_of {ls : Array Slot} {nL : Nat} {l : List (Nat × Value)} {lv : List (Option Value)} (h : lv_has ls nL l) (hm : ∀ i v, lv[i]? = some (some v) → (i, v) ∈ l) : zh ls nL lv := ⟨h.1, h.2.1, fun q hq => by
  obtain ⟨i, v⟩ := q
  obtain ⟨j, h1, h2⟩ := (zp_mem lv 0).mp hq
  have : i = j := by omega
  subst this
  exact h.2.2 _ (hm i v h2)⟩
/-- fewer locals -/
def zle : List (Option Value) → List (Option Value) → Prop
  | [], _ => True
  | none :: a, _ :: b => zle a b
  | some v :: a, x :: b => x = some v ∧ zle a b
  | none :: a, [] => zle a []
  | some _ :: _, [] => False
theorem zle_at : ∀ (a b : List (Option Value)), zle a b → ∀ (i : Nat) (v : Value), a[i]? = some (some v) → b[i]? = some (some v)
  | [], _, _, i, v, h => by simp at h
  | none :: a, x :: b, hz, i, v, h => by
    cases i with
    | zero => simp at h
    | succ i => simpa using zle_at a b hz i v (by simpa using h)
  | some w :: a, x :: b, hz, i, v, h => by
    cases i with
    | zero =>
      simp at h
      subst h
      simp [hz.1]
    | succ i => simpa using zle_at a b hz.2 i v (by simpa using h)
  | none :: a, [], hz, i, v, h => by
    cases i with
    | zero => simp at h
    | succ i => exact absurd (zle_at a [] hz i v (by simpa using h)) (by simp)
  | some _ :: _, [], hz, _, _, _ => hz.elim
theorem zE {b : List (Option Value)} : zle [] b := trivial
theorem zN {a b : List (Option Value)} {x : Option Value} (h : zle a b) : zle (none :: a) (x :: b) := h
theorem zA {a b : List (Option Value)} {v : Value} (h : zle a b) : zle (some v :: a) (some v :: b) := ⟨rfl, h⟩
theorem zh_le {ls : Array Slot} {nL : Nat} {a b : List (Option Value)} (h : zh ls nL b) (hz : zle a b) : zh ls nL a := zh_of h (fun i v hi => (zp_mem b 0).mpr ⟨i, by omega, zle_at a b hz i v hi⟩)
/-- a place ahead is no long -/
def z1 (lv : List (Option Value)) (i : Nat) : Bool := match i with
  | 0 => true
  | j + 1 => match lv[j]? with
    | some (some v) => v.category == 1
    | _ => true
theorem zh_set1 {ls : Array Slot} {nL i : Nat} {v : Value} {lv : List (Option Value)} (h : lv_has ls nL ((i, v) :: (zp 0 lv).filter (fun q => !(q.1 == i) && !(q.1 + 1 == i && q.2.category == 2)))) (h1 : z1 lv i = true) : zh ls nL (lv.set i (some v)) := by
  refine zh_of h (fun j w hj => ?_)
  rw [List.getElem?_set] at hj
  by_cases hji : i = j
  · rw [if_pos hji] at hj
    split at hj
    · cases hj
      subst hji
      exact List.mem_cons_self
    · cases hj
  · rw [if_neg hji] at hj
    refine List.mem_cons_of_mem _ (List.mem_filter.mpr ⟨(zp_mem lv 0).mpr ⟨j, by omega, hj⟩, ?_⟩)
    have e1 : (j == i) = false := by simp; omega
    by_cases hp : j + 1 = i
    · subst hp
      simp only [z1, hj] at h1
      have : w.category = 1 := by simpa using h1
      simp [this]
    · have e2 : (j + 1 == i) = false := by simp [hp]
      simp [e2]; omega
theorem zh_set2 {ls : Array Slot} {nL i : Nat} {v : Value} {lv : List (Option Value)} (h : lv_has ls nL ((i, v) :: (zp 0 lv).filter (fun q => !(q.1 == i) && (!(q.1 == i + 1) && !(q.1 + 1 == i && q.2.category == 2))))) (h1 : z1 lv i = true) : zh ls nL ((lv.set i (some v)).set (i + 1) none) := by
  refine zh_of h (fun j w hj => ?_)
  rw [List.getElem?_set] at hj
  by_cases hji1 : i + 1 = j
  · rw [if_pos hji1] at hj
    split at hj
    · cases hj
    · cases hj
  · rw [if_neg hji1, List.getElem?_set] at hj
    by_cases hji : i = j
    · rw [if_pos hji] at hj
      split at hj
      · cases hj
        subst hji
        exact List.mem_cons_self
      · cases hj
    · rw [if_neg hji] at hj
      refine List.mem_cons_of_mem _ (List.mem_filter.mpr ⟨(zp_mem lv 0).mpr ⟨j, by omega, hj⟩, ?_⟩)
      have e1 : (j == i) = false := by simp; omega
      have e3 : (j == i + 1) = false := by simp; omega
      by_cases hp : j + 1 = i
      · subst hp
        simp only [z1, hj] at h1
        have : w.category = 1 := by simpa using h1
        simp [this]; omega
      · have e2 : (j + 1 == i) = false := by simp [hp]
        simp [e2]; omega
abbrev zF : Type := Program × Env × Room × State × MethodId × Array Value × List Frame × Method × Code × (State → Prop) × (Nat → Prop)
def V (l : Launch) (d : zD) (F : zF) (k n : Nat) (ws : va_W) (lv : List (Option Value)) (pc : Nat) (st : List Value) : Prop := match F with
  | (p, e, R, s, m, args, below, meth, c, Q, A) => ∀ (H : Heap) (locs : List Loc) (ls : Array Slot), va_P d.1 classes ws H → va_D A ws → va_S A s.heap H locs → zh ls c.maxLocals lv → W p l e R s m args below meth c H locs k n Q (F0 m pc ls st)
/-- what a walk may take along of the world that nobody writes: it goes to less, to later states, to a callee's frame -/
def zEc (E : (Nat → Prop) → State → Prop) : Prop := (∀ (A B : Nat → Prop) (U : State), (∀ q, B q → A q) → E A U → E B U) ∧ (∀ (A : Nat → Prop) (s U : State), s.WarmedH U.vm → s.heap.size ≤ U.heap.size → (∀ a : Nat, a < s.heap.size → ¬ A a → U.heap[a]? = s.heap[a]?) → E A s → E A U) ∧ ∀ (A : Nat → Prop) (U : State) (g : JFrame) (mk : MethodId) (a : Array Value), E A U → E A (U.calling g mk a)
def zOk (d : zD) (F : zF) (own : String) (cc : ByteArray) (nL fr lo : Nat) : Prop := match F with
  | (p, _, R, s, m, args, _, _, c, _, A) => p.tables.exec = Jvm.exec ∧ c.code = cc ∧ c.maxLocals = nL ∧ s.vm.findClass own = some m.cls ∧ (∀ w ∈ zW, w.before args s = true) ∧ (∀ q : Nat, s.heap.size ≤ q → A q) ∧ va_K d.1 classes (zt d) s ∧ fr ≤ R.frames ∧ lo ≤ R.locals ∧ zEc d.2.2.2.2.2 ∧ d.2.2.2.2.2 A s
def zQ (r : Option Value) (d : zD) (ws : va_W) (A : Nat → Prop) : Array Value → State → Outcome → State → Prop := fun _ st oc t => (oc = .returned r ∧ va_P d.1 classes ws t.heap ∧ va_K d.1 classes (zt d) t ∧ va_D A ws) ∧ va_F A st t
def zRt (d : zD) (F : zF) (ret : Option FieldType) (r : Option Value) (ws : va_W) : Prop := match F with
  | (_, _, _, s, _, args, below, meth, _, Q, A) => Q = MQ below (zQ r d ws A) args s 0 0 A ∧ meth.sig.returnType = ret ∧ meth.locks = false
def zM (l : Launch) (y : MethodName) (cc : ByteArray) (nL : Nat) (ret : Option FieldType) (fr lo : Nat) (d : zD) (av : List Value) (ws ws' : va_W) (r : Option Value) : Prop := ∀ sz : Nat, Met l y (.code y cc nL ret :: zW) { frames := fr, cells := 0, slots := 0, locals := lo } (va_Pc av (fun U => U.heap.size = sz ∧ va_P d.1 classes ws U.heap ∧ va_K d.1 classes (zt d) U ∧ va_D (fun _ => True) ws ∧ zEc d.2.2.2.2.2 ∧ d.2.2.2.2.2 (va_A ws sz) U)) (zQ r d ws' (va_A ws sz)) 0 0 (va_A ws sz)
theorem zM_of {l : Launch} {y : MethodName} {cc : ByteArray} {nL : Nat} {ret : Option FieldType} {fr lo : Nat} {d : zD} {av : List Value} {ws ws' : va_W} {r : Option Value} (lv : List (Option Value)) (hy : plainName y.cls = true) (hlv : zp 0 lv = lv_args 0 av) (hn : (lg_sl av).length ≤ nL) (K : ∀ F : zF, zOk d F y.cls cc nL fr lo → zRt d F ret r ws' → V l d F 0 0 ws lv 0 []) : zM l y cc nL ret fr lo d av ws ws' r := by
  intro sz
  refine Met.ofW (cc := cc) (maxL := nL) (ret := ret) hy rfl ?_
  intro p e s m args below meth c s₁ B hml hv
  obtain ⟨rfl, hsz, hP, hK, hD0, hEc, hE⟩ := hv
  subst hsz
  have hts := atoms_spec (ws := .code y cc nL ret :: zW) B.pre
  have hD := hD0.self (sz := s.heap.size)
  have hl := lv_entry av (n := nL) hn
  rw [lg_entry_eq]
  refine K (p, e, _, s, m, _, below, meth, c, _, va_A ws s.heap.size) ⟨B.exec, B.bytes, hml, findClass_of_methodNamed B.named, fun w hw => hts w (List.mem_cons_of_mem _ hw), fun q h => Or.inr h, hK, Nat.le_refl _, Nat.le_refl _, hEc, hE⟩ ⟨rfl, B.returns, B.notSynchronized⟩ s.heap [] _ hP hD va_S.rf ?_
  rw [hml]
  unfold zh
  rw [hlv]
  exact hl

theorem zr_iconst {l : Launch} {d : zD} {F : zF} {k n : Nat} {ws : va_W} {lv : List (Option Value)} {pc : Nat} {st : List Value} {own : String} {cc : ByteArray} {nL fr lo : Nat} {v : Int32} (i : Int) (pc' : Nat) (C : zOk d F own cc nL fr lo) (hd : decode cc pc = .ok (.iconst i, 1)) (hp : pc + 1 = pc') (hv : Int32.ofInt i = v) (K : V l d F k n ws lv pc' (.int v :: st)) : V l d F k n ws lv pc (st) := by
  subst hp
  obtain ⟨p, e, R, s, m, args, below, meth, c, Q, A⟩ := F
  intro H locs ls hP hD hS hl
  exact lv_iconst C.1 C.2.1 hd hv (K H locs ls hP hD hS hl)
theorem zr_bipush {l : Launch} {d : zD} {F : zF} {k n : Nat} {ws : va_W} {lv : List (Option Value)} {pc : Nat} {st : List Value} {own : String} {cc : ByteArray} {nL fr lo : Nat} {v : Int32} (i : Int) (pc' : Nat) (C : zOk d F own cc nL fr lo) (hd : decode cc pc = .ok (.bipush i, 2)) (hp : pc + 2 = pc') (hv : (Int8.ofInt i).toInt32 = v) (K : V l d F k n ws lv pc' (.int v :: st)) : V l d F k n ws lv pc (st) := by
  subst hp
  obtain ⟨p, e, R, s, m, args, below, meth, c, Q, A⟩ := F
  intro H locs ls hP hD hS hl
  exact lv_bipush C.1 C.2.1 hd hv (K H locs ls hP hD hS hl)
theorem zr_sipush {l : Launch} {d : zD} {F : zF} {k n : Nat} {ws : va_W} {lv : List (Option Value)} {pc : Nat} {st : List Value} {own : String} {cc : ByteArray} {nL fr lo : Nat} {v : Int32} (i : Int) (pc' : Nat) (C : zOk d F own cc nL fr lo) (hd : decode cc pc = .ok (.sipush i, 3)) (hp : pc + 3 = pc') (hv : (Int16.ofInt i).toInt32 = v) (K : V l d F k n ws lv pc' (.int v :: st)) : V l d F k n ws lv pc (st) := by
  subst hp
  obtain ⟨p, e, R, s, m, args, below, meth, c, Q, A⟩ := F
  intro H locs ls hP hD hS hl
  exact lv_sipush C.1 C.2.1 hd hv (K H locs ls hP hD hS hl)
theorem zr_lconst {l : Launch} {d : zD} {F : zF} {k n : Nat} {ws : va_W} {lv : List (Option Value)} {pc : Nat} {st : List Value} {own : String} {cc : ByteArray} {nL fr lo : Nat} {v : Int64} {i : Fin 2} (pc' : Nat) (C : zOk d F own cc nL fr lo) (hd : decode cc pc = .ok (.lconst i, 1)) (hp : pc + 1 = pc') (hv : Int64.ofNat (i : Nat) = v) (K : V l d F k n ws lv pc' (.long v :: st)) : V l d F k n ws lv pc (st) := by
  subst hp
  obtain ⟨p, e, R, s, m, args, below, meth, c, Q, A⟩ := F
  intro H locs ls hP hD hS hl
  exact lv_lconst C.1 C.2.1 hd hv (K H locs ls hP hD hS hl)
theorem zr_ldc {l : Launch} {d : zD} {F : zF} {k n : Nat} {ws : va_W} {lv : List (Option Value)} {pc : Nat} {st : List Value} {own : String} {cc : ByteArray} {nL fr lo : Nat} {v : Int32} {i : Nat} (pc' : Nat) (C : zOk d F own cc nL fr lo) (hd : decode cc pc = .ok (.ldc i, 2)) (hp : pc + 2 = pc') (hq : Cond.constant own i v ∈ zW) (K : V l d F k n ws lv pc' (.int v :: st)) : V l d F k n ws lv pc (st) := by
  subst hp
  obtain ⟨p, e, R, s, m, args, below, meth, c, Q, A⟩ := F
  intro H locs ls hP hD hS hl
  exact lv_ldc C.1 C.2.1 C.2.2.2.1 (C.2.2.2.2.1 _ hq) hd (K H locs ls hP hD hS hl)
theorem zr_ldc2 {l : Launch} {d : zD} {F : zF} {k n : Nat} {ws : va_W} {lv : List (Option Value)} {pc : Nat} {st : List Value} {own : String} {cc : ByteArray} {nL fr lo : Nat} {v : Int64} {i : Nat} (pc' : Nat) (C : zOk d F own cc nL fr lo) (hd : decode cc pc = .ok (.ldc2_w i, 3)) (hp : pc + 3 = pc') (hq : Cond.constantLong own i v ∈ zW) (K : V l d F k n ws lv pc' (.long v :: st)) : V l d F k n ws lv pc (st) := by
  subst hp
  obtain ⟨p, e, R, s, m, args, below, meth, c, Q, A⟩ := F
  intro H locs ls hP hD hS hl
  exact lv_ldc2 C.1 C.2.1 C.2.2.2.1 (C.2.2.2.2.1 _ hq) hd (K H locs ls hP hD hS hl)
theorem zr_iload_n {l : Launch} {d : zD} {F : zF} {k n : Nat} {ws : va_W} {lv : List (Option Value)} {pc : Nat} {st : List Value} {own : String} {cc : ByteArray} {nL fr lo : Nat} {x : Int32} (i : Fin 4) (pc' : Nat) (C : zOk d F own cc nL fr lo) (hd : decode cc pc = .ok (.iload_n i, 1)) (hp : pc + 1 = pc') (hl0 : lv[(i : Nat)]? = some (some (.int x))) (K : V l d F k n ws lv pc' (.int x :: st)) : V l d F k n ws lv pc (st) := by
  subst hp
  obtain ⟨p, e, R, s, m, args, below, meth, c, Q, A⟩ := F
  intro H locs ls hP hD hS hl
  exact lv_iload_n C.1 C.2.1 hd rfl (zh_at hl hl0) (K H locs ls hP hD hS hl)
theorem zr_iload {l : Launch} {d : zD} {F : zF} {k n : Nat} {ws : va_W} {lv : List (Option Value)} {pc : Nat} {st : List Value} {own : String} {cc : ByteArray} {nL fr lo : Nat} {x : Int32} (i : Nat) (pc' : Nat) (C : zOk d F own cc nL fr lo) (hd : decode cc pc = .ok (.iload i, 2)) (hp : pc + 2 = pc') (hl0 : lv[i]? = some (some (.int x))) (K : V l d F k n ws lv pc' (.int x :: st)) : V l d F k n ws lv pc (st) := by
  subst hp
  obtain ⟨p, e, R, s, m, args, below, meth, c, Q, A⟩ := F
  intro H locs ls hP hD hS hl
  exact lv_iload C.1 C.2.1 hd (zh_at hl hl0) (K H locs ls hP hD hS hl)
theorem zr_lload_n {l : Launch} {d : zD} {F : zF} {k n : Nat} {ws : va_W} {lv : List (Option Value)} {pc : Nat} {st : List Value} {own : String} {cc : ByteArray} {nL fr lo : Nat} {x : Int64} (i : Fin 4) (pc' : Nat) (C : zOk d F own cc nL fr lo) (hd : decode cc pc = .ok (.lload_n i, 1)) (hp : pc + 1 = pc') (hl0 : lv[(i : Nat)]? = some (some (.long x))) (K : V l d F k n ws lv pc' (.long x :: st)) : V l d F k n ws lv pc (st) := by
  subst hp
  obtain ⟨p, e, R, s, m, args, below, meth, c, Q, A⟩ := F
  intro H locs ls hP hD hS hl
  exact lv_lload_n C.1 C.2.1 hd rfl (zh_at hl hl0) (K H locs ls hP hD hS hl)
theorem zr_aload_n {l : Launch} {d : zD} {F : zF} {k n : Nat} {ws : va_W} {lv : List (Option Value)} {pc : Nat} {st : List Value} {own : String} {cc : ByteArray} {nL fr lo : Nat} {x : Nat} (i : Fin 4) (pc' : Nat) (C : zOk d F own cc nL fr lo) (hd : decode cc pc = .ok (.aload_n i, 1)) (hp : pc + 1 = pc') (hl0 : lv[(i : Nat)]? = some (some (.ref x))) (K : V l d F k n ws lv pc' (.ref x :: st)) : V l d F k n ws lv pc (st) := by
  subst hp
  obtain ⟨p, e, R, s, m, args, below, meth, c, Q, A⟩ := F
  intro H locs ls hP hD hS hl
  exact lv_aload_n C.1 C.2.1 hd rfl (zh_at hl hl0) (K H locs ls hP hD hS hl)
theorem zr_aload {l : Launch} {d : zD} {F : zF} {k n : Nat} {ws : va_W} {lv : List (Option Value)} {pc : Nat} {st : List Value} {own : String} {cc : ByteArray} {nL fr lo : Nat} {x : Nat} (i : Nat) (pc' : Nat) (C : zOk d F own cc nL fr lo) (hd : decode cc pc = .ok (.aload i, 2)) (hp : pc + 2 = pc') (hl0 : lv[i]? = some (some (.ref x))) (K : V l d F k n ws lv pc' (.ref x :: st)) : V l d F k n ws lv pc (st) := by
  subst hp
  obtain ⟨p, e, R, s, m, args, below, meth, c, Q, A⟩ := F
  intro H locs ls hP hD hS hl
  exact lv_aload C.1 C.2.1 hd (zh_at hl hl0) (K H locs ls hP hD hS hl)
theorem zr_iadd {l : Launch} {d : zD} {F : zF} {k n : Nat} {ws : va_W} {lv : List (Option Value)} {pc : Nat} {st : List Value} {own : String} {cc : ByteArray} {nL fr lo : Nat} {x y : Int32} (pc' : Nat) (C : zOk d F own cc nL fr lo) (hd : decode cc pc = .ok (.iadd, 1)) (hp : pc + 1 = pc') (K : V l d F k n ws lv pc' (.int (x + y) :: st)) : V l d F k n ws lv pc (.int y :: .int x :: st) := by
  subst hp
  obtain ⟨p, e, R, s, m, args, below, meth, c, Q, A⟩ := F
  intro H locs ls hP hD hS hl
  exact lv_iadd C.1 C.2.1 hd (K H locs ls hP hD hS hl)
theorem zr_isub {l : Launch} {d : zD} {F : zF} {k n : Nat} {ws : va_W} {lv : List (Option Value)} {pc : Nat} {st : List Value} {own : String} {cc : ByteArray} {nL fr lo : Nat} {x y : Int32} (pc' : Nat) (C : zOk d F own cc nL fr lo) (hd : decode cc pc = .ok (.isub, 1)) (hp : pc + 1 = pc') (K : V l d F k n ws lv pc' (.int (x - y) :: st)) : V l d F k n ws lv pc (.int y :: .int x :: st) := by
  subst hp
  obtain ⟨p, e, R, s, m, args, below, meth, c, Q, A⟩ := F
  intro H locs ls hP hD hS hl
  exact lv_isub C.1 C.2.1 hd (K H locs ls hP hD hS hl)
theorem zr_imul {l : Launch} {d : zD} {F : zF} {k n : Nat} {ws : va_W} {lv : List (Option Value)} {pc : Nat} {st : List Value} {own : String} {cc : ByteArray} {nL fr lo : Nat} {x y : Int32} (pc' : Nat) (C : zOk d F own cc nL fr lo) (hd : decode cc pc = .ok (.imul, 1)) (hp : pc + 1 = pc') (K : V l d F k n ws lv pc' (.int (x * y) :: st)) : V l d F k n ws lv pc (.int y :: .int x :: st) := by
  subst hp
  obtain ⟨p, e, R, s, m, args, below, meth, c, Q, A⟩ := F
  intro H locs ls hP hD hS hl
  exact lv_imul C.1 C.2.1 hd (K H locs ls hP hD hS hl)
theorem zr_iand {l : Launch} {d : zD} {F : zF} {k n : Nat} {ws : va_W} {lv : List (Option Value)} {pc : Nat} {st : List Value} {own : String} {cc : ByteArray} {nL fr lo : Nat} {x y : Int32} (pc' : Nat) (C : zOk d F own cc nL fr lo) (hd : decode cc pc = .ok (.iand, 1)) (hp : pc + 1 = pc') (K : V l d F k n ws lv pc' (.int (x &&& y) :: st)) : V l d F k n ws lv pc (.int y :: .int x :: st) := by
  subst hp
  obtain ⟨p, e, R, s, m, args, below, meth, c, Q, A⟩ := F
  intro H locs ls hP hD hS hl
  exact lv_iand C.1 C.2.1 hd (K H locs ls hP hD hS hl)
theorem zr_ior {l : Launch} {d : zD} {F : zF} {k n : Nat} {ws : va_W} {lv : List (Option Value)} {pc : Nat} {st : List Value} {own : String} {cc : ByteArray} {nL fr lo : Nat} {x y : Int32} (pc' : Nat) (C : zOk d F own cc nL fr lo) (hd : decode cc pc = .ok (.ior, 1)) (hp : pc + 1 = pc') (K : V l d F k n ws lv pc' (.int (x ||| y) :: st)) : V l d F k n ws lv pc (.int y :: .int x :: st) := by
  subst hp
  obtain ⟨p, e, R, s, m, args, below, meth, c, Q, A⟩ := F
  intro H locs ls hP hD hS hl
  exact lv_ior C.1 C.2.1 hd (K H locs ls hP hD hS hl)
theorem zr_ixor {l : Launch} {d : zD} {F : zF} {k n : Nat} {ws : va_W} {lv : List (Option Value)} {pc : Nat} {st : List Value} {own : String} {cc : ByteArray} {nL fr lo : Nat} {x y : Int32} (pc' : Nat) (C : zOk d F own cc nL fr lo) (hd : decode cc pc = .ok (.ixor, 1)) (hp : pc + 1 = pc') (K : V l d F k n ws lv pc' (.int (x ^^^ y) :: st)) : V l d F k n ws lv pc (.int y :: .int x :: st) := by
  subst hp
  obtain ⟨p, e, R, s, m, args, below, meth, c, Q, A⟩ := F
  intro H locs ls hP hD hS hl
  exact lv_ixor C.1 C.2.1 hd (K H locs ls hP hD hS hl)
theorem zr_ishl {l : Launch} {d : zD} {F : zF} {k n : Nat} {ws : va_W} {lv : List (Option Value)} {pc : Nat} {st : List Value} {own : String} {cc : ByteArray} {nL fr lo : Nat} {x y : Int32} (pc' : Nat) (C : zOk d F own cc nL fr lo) (hd : decode cc pc = .ok (.ishl, 1)) (hp : pc + 1 = pc') (K : V l d F k n ws lv pc' (.int (zshl x y) :: st)) : V l d F k n ws lv pc (.int y :: .int x :: st) := by
  subst hp
  obtain ⟨p, e, R, s, m, args, below, meth, c, Q, A⟩ := F
  intro H locs ls hP hD hS hl
  exact lv_ishl C.1 C.2.1 hd (K H locs ls hP hD hS hl)
theorem zr_ishr {l : Launch} {d : zD} {F : zF} {k n : Nat} {ws : va_W} {lv : List (Option Value)} {pc : Nat} {st : List Value} {own : String} {cc : ByteArray} {nL fr lo : Nat} {x y : Int32} (pc' : Nat) (C : zOk d F own cc nL fr lo) (hd : decode cc pc = .ok (.ishr, 1)) (hp : pc + 1 = pc') (K : V l d F k n ws lv pc' (.int (zshr x y) :: st)) : V l d F k n ws lv pc (.int y :: .int x :: st) := by
  subst hp
  obtain ⟨p, e, R, s, m, args, below, meth, c, Q, A⟩ := F
  intro H locs ls hP hD hS hl
  exact lv_ishr C.1 C.2.1 hd (K H locs ls hP hD hS hl)
theorem zr_ladd {l : Launch} {d : zD} {F : zF} {k n : Nat} {ws : va_W} {lv : List (Option Value)} {pc : Nat} {st : List Value} {own : String} {cc : ByteArray} {nL fr lo : Nat} {x y : Int64} (pc' : Nat) (C : zOk d F own cc nL fr lo) (hd : decode cc pc = .ok (.ladd, 1)) (hp : pc + 1 = pc') (K : V l d F k n ws lv pc' (.long (x + y) :: st)) : V l d F k n ws lv pc (.long y :: .long x :: st) := by
  subst hp
  obtain ⟨p, e, R, s, m, args, below, meth, c, Q, A⟩ := F
  intro H locs ls hP hD hS hl
  exact lv_ladd C.1 C.2.1 hd (K H locs ls hP hD hS hl)
theorem zr_lor {l : Launch} {d : zD} {F : zF} {k n : Nat} {ws : va_W} {lv : List (Option Value)} {pc : Nat} {st : List Value} {own : String} {cc : ByteArray} {nL fr lo : Nat} {x y : Int64} (pc' : Nat) (C : zOk d F own cc nL fr lo) (hd : decode cc pc = .ok (.lor, 1)) (hp : pc + 1 = pc') (K : V l d F k n ws lv pc' (.long (x ||| y) :: st)) : V l d F k n ws lv pc (.long y :: .long x :: st) := by
  subst hp
  obtain ⟨p, e, R, s, m, args, below, meth, c, Q, A⟩ := F
  intro H locs ls hP hD hS hl
  exact lv_lor C.1 C.2.1 hd (K H locs ls hP hD hS hl)
theorem zr_land {l : Launch} {d : zD} {F : zF} {k n : Nat} {ws : va_W} {lv : List (Option Value)} {pc : Nat} {st : List Value} {own : String} {cc : ByteArray} {nL fr lo : Nat} {x y : Int64} (pc' : Nat) (C : zOk d F own cc nL fr lo) (hd : decode cc pc = .ok (.land, 1)) (hp : pc + 1 = pc') (K : V l d F k n ws lv pc' (.long (x &&& y) :: st)) : V l d F k n ws lv pc (.long y :: .long x :: st) := by
  subst hp
  obtain ⟨p, e, R, s, m, args, below, meth, c, Q, A⟩ := F
  intro H locs ls hP hD hS hl
  exact lv_land C.1 C.2.1 hd (K H locs ls hP hD hS hl)
theorem zr_ineg {l : Launch} {d : zD} {F : zF} {k n : Nat} {ws : va_W} {lv : List (Option Value)} {pc : Nat} {st : List Value} {own : String} {cc : ByteArray} {nL fr lo : Nat} {x : Int32} (pc' : Nat) (C : zOk d F own cc nL fr lo) (hd : decode cc pc = .ok (.ineg, 1)) (hp : pc + 1 = pc') (K : V l d F k n ws lv pc' (.int (-x) :: st)) : V l d F k n ws lv pc (.int x :: st) := by
  subst hp
  obtain ⟨p, e, R, s, m, args, below, meth, c, Q, A⟩ := F
  intro H locs ls hP hD hS hl
  exact lv_ineg C.1 C.2.1 hd (K H locs ls hP hD hS hl)
theorem zr_i2l {l : Launch} {d : zD} {F : zF} {k n : Nat} {ws : va_W} {lv : List (Option Value)} {pc : Nat} {st : List Value} {own : String} {cc : ByteArray} {nL fr lo : Nat} {x : Int32} (pc' : Nat) (C : zOk d F own cc nL fr lo) (hd : decode cc pc = .ok (.i2l, 1)) (hp : pc + 1 = pc') (K : V l d F k n ws lv pc' (.long x.toInt64 :: st)) : V l d F k n ws lv pc (.int x :: st) := by
  subst hp
  obtain ⟨p, e, R, s, m, args, below, meth, c, Q, A⟩ := F
  intro H locs ls hP hD hS hl
  exact lv_i2l C.1 C.2.1 hd rfl (K H locs ls hP hD hS hl)
theorem zr_l2i {l : Launch} {d : zD} {F : zF} {k n : Nat} {ws : va_W} {lv : List (Option Value)} {pc : Nat} {st : List Value} {own : String} {cc : ByteArray} {nL fr lo : Nat} {x : Int64} (pc' : Nat) (C : zOk d F own cc nL fr lo) (hd : decode cc pc = .ok (.l2i, 1)) (hp : pc + 1 = pc') (K : V l d F k n ws lv pc' (.int x.toInt32 :: st)) : V l d F k n ws lv pc (.long x :: st) := by
  subst hp
  obtain ⟨p, e, R, s, m, args, below, meth, c, Q, A⟩ := F
  intro H locs ls hP hD hS hl
  exact lv_l2i C.1 C.2.1 hd rfl (K H locs ls hP hD hS hl)
theorem zr_i2b {l : Launch} {d : zD} {F : zF} {k n : Nat} {ws : va_W} {lv : List (Option Value)} {pc : Nat} {st : List Value} {own : String} {cc : ByteArray} {nL fr lo : Nat} {x : Int32} (pc' : Nat) (C : zOk d F own cc nL fr lo) (hd : decode cc pc = .ok (.i2b, 1)) (hp : pc + 1 = pc') (K : V l d F k n ws lv pc' (.int x.toInt8.toInt32 :: st)) : V l d F k n ws lv pc (.int x :: st) := by
  subst hp
  obtain ⟨p, e, R, s, m, args, below, meth, c, Q, A⟩ := F
  intro H locs ls hP hD hS hl
  exact lv_i2b C.1 C.2.1 hd rfl (K H locs ls hP hD hS hl)
theorem zr_i2s {l : Launch} {d : zD} {F : zF} {k n : Nat} {ws : va_W} {lv : List (Option Value)} {pc : Nat} {st : List Value} {own : String} {cc : ByteArray} {nL fr lo : Nat} {x : Int32} (pc' : Nat) (C : zOk d F own cc nL fr lo) (hd : decode cc pc = .ok (.i2s, 1)) (hp : pc + 1 = pc') (K : V l d F k n ws lv pc' (.int x.toInt16.toInt32 :: st)) : V l d F k n ws lv pc (.int x :: st) := by
  subst hp
  obtain ⟨p, e, R, s, m, args, below, meth, c, Q, A⟩ := F
  intro H locs ls hP hD hS hl
  exact lv_i2s C.1 C.2.1 hd rfl (K H locs ls hP hD hS hl)
def zlshl (x : Int64) (y : Int32) : Int64 := x <<< (y.toInt64 &&& 63)
def zlshr (x : Int64) (y : Int32) : Int64 := x >>> (y.toInt64 &&& 63)
def zlushr (x : Int64) (y : Int32) : Int64 := (x.toUInt64 >>> (y.toInt64.toUInt64 &&& Int64.toUInt64 63)).toInt64
theorem zr_lshl {l : Launch} {d : zD} {F : zF} {k n : Nat} {ws : va_W} {lv : List (Option Value)} {pc : Nat} {st : List Value} {own : String} {cc : ByteArray} {nL fr lo : Nat} {x : Int64} {y : Int32} (pc' : Nat) (C : zOk d F own cc nL fr lo) (hd : decode cc pc = .ok (.lshl, 1)) (hp : pc + 1 = pc') (K : V l d F k n ws lv pc' (.long (zlshl x y) :: st)) : V l d F k n ws lv pc (.int y :: .long x :: st) := by
  subst hp
  obtain ⟨p, e, R, s, m, args, below, meth, c, Q, A⟩ := F
  intro H locs ls hP hD hS hl
  exact lv_lshl C.1 C.2.1 hd rfl (K H locs ls hP hD hS hl)
theorem zr_lshr {l : Launch} {d : zD} {F : zF} {k n : Nat} {ws : va_W} {lv : List (Option Value)} {pc : Nat} {st : List Value} {own : String} {cc : ByteArray} {nL fr lo : Nat} {x : Int64} {y : Int32} (pc' : Nat) (C : zOk d F own cc nL fr lo) (hd : decode cc pc = .ok (.lshr, 1)) (hp : pc + 1 = pc') (K : V l d F k n ws lv pc' (.long (zlshr x y) :: st)) : V l d F k n ws lv pc (.int y :: .long x :: st) := by
  subst hp
  obtain ⟨p, e, R, s, m, args, below, meth, c, Q, A⟩ := F
  intro H locs ls hP hD hS hl
  exact lv_lshr C.1 C.2.1 hd rfl (K H locs ls hP hD hS hl)
theorem zr_lushr {l : Launch} {d : zD} {F : zF} {k n : Nat} {ws : va_W} {lv : List (Option Value)} {pc : Nat} {st : List Value} {own : String} {cc : ByteArray} {nL fr lo : Nat} {x : Int64} {y : Int32} (pc' : Nat) (C : zOk d F own cc nL fr lo) (hd : decode cc pc = .ok (.lushr, 1)) (hp : pc + 1 = pc') (K : V l d F k n ws lv pc' (.long (zlushr x y) :: st)) : V l d F k n ws lv pc (.int y :: .long x :: st) := by
  subst hp
  obtain ⟨p, e, R, s, m, args, below, meth, c, Q, A⟩ := F
  intro H locs ls hP hD hS hl
  exact lv_lushr C.1 C.2.1 hd rfl (K H locs ls hP hD hS hl)
theorem zr_dup {l : Launch} {d : zD} {F : zF} {k n : Nat} {ws : va_W} {lv : List (Option Value)} {pc : Nat} {st : List Value} {own : String} {cc : ByteArray} {nL fr lo : Nat} {v : Value} (pc' : Nat) (C : zOk d F own cc nL fr lo) (hd : decode cc pc = .ok (.dup, 1)) (hp : pc + 1 = pc') (hv : v.category = 1) (K : V l d F k n ws lv pc' (v :: v :: st)) : V l d F k n ws lv pc (v :: st) := by
  subst hp
  obtain ⟨p, e, R, s, m, args, below, meth, c, Q, A⟩ := F
  intro H locs ls hP hD hS hl
  exact lv_dup C.1 C.2.1 hd hv (K H locs ls hP hD hS hl)
theorem zr_pop {l : Launch} {d : zD} {F : zF} {k n : Nat} {ws : va_W} {lv : List (Option Value)} {pc : Nat} {st : List Value} {own : String} {cc : ByteArray} {nL fr lo : Nat} {v : Value} (pc' : Nat) (C : zOk d F own cc nL fr lo) (hd : decode cc pc = .ok (.pop, 1)) (hp : pc + 1 = pc') (hv : v.category = 1) (K : V l d F k n ws lv pc' (st)) : V l d F k n ws lv pc (v :: st) := by
  subst hp
  obtain ⟨p, e, R, s, m, args, below, meth, c, Q, A⟩ := F
  intro H locs ls hP hD hS hl
  exact lv_pop C.1 C.2.1 hd hv (K H locs ls hP hD hS hl)
theorem zr_dup2 {l : Launch} {d : zD} {F : zF} {k n : Nat} {ws : va_W} {lv : List (Option Value)} {pc : Nat} {st : List Value} {own : String} {cc : ByteArray} {nL fr lo : Nat} {v w : Value} (pc' : Nat) (C : zOk d F own cc nL fr lo) (hd : decode cc pc = .ok (.dup2, 1)) (hp : pc + 1 = pc') (hv : v.category = 1) (hw : w.category = 1) (K : V l d F k n ws lv pc' (w :: v :: w :: v :: st)) : V l d F k n ws lv pc (w :: v :: st) := by
  subst hp
  obtain ⟨p, e, R, s, m, args, below, meth, c, Q, A⟩ := F
  intro H locs ls hP hD hS hl
  exact lv_dup2_11 C.1 C.2.1 hd hw hv (K H locs ls hP hD hS hl)
theorem zr_idiv {l : Launch} {d : zD} {F : zF} {k n : Nat} {ws : va_W} {lv : List (Option Value)} {pc : Nat} {st : List Value} {own : String} {cc : ByteArray} {nL fr lo : Nat} {x y : Int32} (pc' : Nat) (C : zOk d F own cc nL fr lo) (hd : decode cc pc = .ok (.idiv, 1)) (hp : pc + 1 = pc') (hne : ¬ y = 0) (K : V l d F k n ws lv pc' (.int (x / y) :: st)) : V l d F k n ws lv pc (.int y :: .int x :: st) := by
  subst hp
  obtain ⟨p, e, R, s, m, args, below, meth, c, Q, A⟩ := F
  intro H locs ls hP hD hS hl
  exact lv_idiv C.1 C.2.1 hd hne (K H locs ls hP hD hS hl)
theorem zr_irem {l : Launch} {d : zD} {F : zF} {k n : Nat} {ws : va_W} {lv : List (Option Value)} {pc : Nat} {st : List Value} {own : String} {cc : ByteArray} {nL fr lo : Nat} {x y : Int32} (pc' : Nat) (C : zOk d F own cc nL fr lo) (hd : decode cc pc = .ok (.irem, 1)) (hp : pc + 1 = pc') (hne : ¬ y = 0) (K : V l d F k n ws lv pc' (.int (zrem x y) :: st)) : V l d F k n ws lv pc (.int y :: .int x :: st) := by
  subst hp
  obtain ⟨p, e, R, s, m, args, below, meth, c, Q, A⟩ := F
  intro H locs ls hP hD hS hl
  exact lv_irem C.1 C.2.1 hd hne (K H locs ls hP hD hS hl)
theorem zr_istore_n {l : Launch} {d : zD} {F : zF} {k n : Nat} {ws : va_W} {lv : List (Option Value)} {pc : Nat} {st : List Value} {own : String} {cc : ByteArray} {nL fr lo : Nat} {x : Int32} (i : Fin 4) (lv' : List (Option Value)) (pc' : Nat) (C : zOk d F own cc nL fr lo) (hd : decode cc pc = .ok (.istore_n i, 1)) (hp : pc + 1 = pc') (hn : (i : Nat) < nL) (h1 : z1 lv i = true) (he : lv.set (i : Nat) (some (.int x)) = lv') (K : V l d F k n ws lv' pc' st) : V l d F k n ws lv pc (.int x :: st) := by
  subst hp
  subst he
  obtain ⟨p, e, R, s, m, args, below, meth, c, Q, A⟩ := F
  intro H locs ls hP hD hS hl
  exact lv_istore_n C.1 C.2.1 hd rfl hl (by rw [C.2.2.1]; exact hn) rfl (fun ls' hl' => K H locs ls' hP hD hS (zh_set1 hl' h1))
theorem zr_istore {l : Launch} {d : zD} {F : zF} {k n : Nat} {ws : va_W} {lv : List (Option Value)} {pc : Nat} {st : List Value} {own : String} {cc : ByteArray} {nL fr lo : Nat} {x : Int32} (i : Nat) (lv' : List (Option Value)) (pc' : Nat) (C : zOk d F own cc nL fr lo) (hd : decode cc pc = .ok (.istore i, 2)) (hp : pc + 2 = pc') (hn : i < nL) (h1 : z1 lv i = true) (he : lv.set i (some (.int x)) = lv') (K : V l d F k n ws lv' pc' st) : V l d F k n ws lv pc (.int x :: st) := by
  subst hp
  subst he
  obtain ⟨p, e, R, s, m, args, below, meth, c, Q, A⟩ := F
  intro H locs ls hP hD hS hl
  exact lv_istore C.1 C.2.1 hd hl (by rw [C.2.2.1]; exact hn) rfl (fun ls' hl' => K H locs ls' hP hD hS (zh_set1 hl' h1))
theorem zr_astore_n {l : Launch} {d : zD} {F : zF} {k n : Nat} {ws : va_W} {lv : List (Option Value)} {pc : Nat} {st : List Value} {own : String} {cc : ByteArray} {nL fr lo : Nat} {x : Nat} (i : Fin 4) (lv' : List (Option Value)) (pc' : Nat) (C : zOk d F own cc nL fr lo) (hd : decode cc pc = .ok (.astore_n i, 1)) (hp : pc + 1 = pc') (hn : (i : Nat) < nL) (h1 : z1 lv i = true) (he : lv.set (i : Nat) (some (.ref x)) = lv') (K : V l d F k n ws lv' pc' st) : V l d F k n ws lv pc (.ref x :: st) := by
  subst hp
  subst he
  obtain ⟨p, e, R, s, m, args, below, meth, c, Q, A⟩ := F
  intro H locs ls hP hD hS hl
  exact lv_astore_n C.1 C.2.1 hd rfl hl (by rw [C.2.2.1]; exact hn) rfl (fun ls' hl' => K H locs ls' hP hD hS (zh_set1 hl' h1))
theorem zr_astore {l : Launch} {d : zD} {F : zF} {k n : Nat} {ws : va_W} {lv : List (Option Value)} {pc : Nat} {st : List Value} {own : String} {cc : ByteArray} {nL fr lo : Nat} {x : Nat} (i : Nat) (lv' : List (Option Value)) (pc' : Nat) (C : zOk d F own cc nL fr lo) (hd : decode cc pc = .ok (.astore i, 2)) (hp : pc + 2 = pc') (hn : i < nL) (h1 : z1 lv i = true) (he : lv.set i (some (.ref x)) = lv') (K : V l d F k n ws lv' pc' st) : V l d F k n ws lv pc (.ref x :: st) := by
  subst hp
  subst he
  obtain ⟨p, e, R, s, m, args, below, meth, c, Q, A⟩ := F
  intro H locs ls hP hD hS hl
  exact lv_astore C.1 C.2.1 hd hl (by rw [C.2.2.1]; exact hn) rfl (fun ls' hl' => K H locs ls' hP hD hS (zh_set1 hl' h1))
theorem zr_lstore_n {l : Launch} {d : zD} {F : zF} {k n : Nat} {ws : va_W} {lv : List (Option Value)} {pc : Nat} {st : List Value} {own : String} {cc : ByteArray} {nL fr lo : Nat} {x : Int64} (i : Fin 4) (lv' : List (Option Value)) (pc' : Nat) (C : zOk d F own cc nL fr lo) (hd : decode cc pc = .ok (.lstore_n i, 1)) (hp : pc + 1 = pc') (hn : (i : Nat) + 1 < nL) (h1 : z1 lv i = true) (he : (lv.set (i : Nat) (some (.long x))).set ((i : Nat) + 1) none = lv') (K : V l d F k n ws lv' pc' st) : V l d F k n ws lv pc (.long x :: st) := by
  subst hp
  subst he
  obtain ⟨p, e, R, s, m, args, below, meth, c, Q, A⟩ := F
  intro H locs ls hP hD hS hl
  exact lv_lstore_n C.1 C.2.1 hd rfl hl (by rw [C.2.2.1]; exact hn) rfl (fun ls' hl' => K H locs ls' hP hD hS (zh_set2 hl' h1))
theorem zr_iinc {l : Launch} {d : zD} {F : zF} {k n : Nat} {ws : va_W} {lv : List (Option Value)} {pc : Nat} {st : List Value} {own : String} {cc : ByteArray} {nL fr lo : Nat} {x v : Int32} {j : Int} (i : Nat) (lv' : List (Option Value)) (pc' : Nat) (C : zOk d F own cc nL fr lo) (hd : decode cc pc = .ok (.iinc i j, 3)) (hp : pc + 3 = pc') (hl0 : lv[i]? = some (some (.int x))) (hv : x + Int32.ofInt j = v) (hn : i < nL) (h1 : z1 lv i = true) (he : lv.set i (some (.int v)) = lv') (K : V l d F k n ws lv' pc' st) : V l d F k n ws lv pc st := by
  subst hp
  subst he
  obtain ⟨p, e, R, s, m, args, below, meth, c, Q, A⟩ := F
  intro H locs ls hP hD hS hl
  obtain ⟨q, hq⟩ := List.getElem?_of_mem ((zp_mem lv 0).mpr ⟨i, (Nat.zero_add i).symm, hl0⟩)
  exact lv_iinc C.1 C.2.1 hd hl hq hv (by rw [C.2.2.1]; exact hn) rfl (fun ls' hl' => K H locs ls' hP hD hS (zh_set1 hl' h1))
theorem zr_goto {l : Launch} {d : zD} {F : zF} {k n : Nat} {ws : va_W} {lv : List (Option Value)} {pc : Nat} {st : List Value} {own : String} {cc : ByteArray} {nL fr lo : Nat} {off : Int} (tgt : Nat) (C : zOk d F own cc nL fr lo) (hd : decode cc pc = .ok (.goto off, 3)) (ht : (pc : Int) + off = (tgt : Int)) (K : V l d F k n ws lv tgt st) : V l d F k n ws lv pc st := by
  obtain ⟨p, e, R, s, m, args, below, meth, c, Q, A⟩ := F
  intro H locs ls hP hD hS hl
  exact lv_goto C.1 C.2.1 hd ht (K H locs ls hP hD hS hl)
theorem zr_icmp_eq {l : Launch} {d : zD} {F : zF} {k n : Nat} {ws : va_W} {lv : List (Option Value)} {pc : Nat} {st : List Value} {own : String} {cc : ByteArray} {nL fr lo : Nat} {x y : Int32} {off : Int} {β : Type} {X Y : Option β} {out : β} (tgt pc' : Nat) (C : zOk d F own cc nL fr lo) (hd : decode cc pc = .ok (.if_icmp .eq off, 3)) (ht : (pc : Int) + off = (tgt : Int)) (hp : pc + 3 = pc') (hf : (if x = y then X else Y) = some out) (K1 : X = some out → V l d F k n ws lv tgt st) (K2 : Y = some out → V l d F k n ws lv pc' st) : V l d F k n ws lv pc (.int y :: .int x :: st) := by
  subst hp
  obtain ⟨p, e, R, s, m, args, below, meth, c, Q, A⟩ := F
  intro H locs ls hP hD hS hl
  refine lv_icmp_eq C.1 C.2.1 hd ht (fun h => ?_) (fun h => ?_)
  · rw [if_pos h] at hf
    exact K1 hf H locs ls hP hD hS hl
  · rw [if_neg h] at hf
    exact K2 hf H locs ls hP hD hS hl
theorem zr_if_eq {l : Launch} {d : zD} {F : zF} {k n : Nat} {ws : va_W} {lv : List (Option Value)} {pc : Nat} {st : List Value} {own : String} {cc : ByteArray} {nL fr lo : Nat} {x : Int32} {off : Int} {β : Type} {X Y : Option β} {out : β} (tgt pc' : Nat) (C : zOk d F own cc nL fr lo) (hd : decode cc pc = .ok (.ifCond .eq off, 3)) (ht : (pc : Int) + off = (tgt : Int)) (hp : pc + 3 = pc') (hf : (if x = 0 then X else Y) = some out) (K1 : X = some out → V l d F k n ws lv tgt st) (K2 : Y = some out → V l d F k n ws lv pc' st) : V l d F k n ws lv pc (.int x :: st) := by
  subst hp
  obtain ⟨p, e, R, s, m, args, below, meth, c, Q, A⟩ := F
  intro H locs ls hP hD hS hl
  refine lv_if_eq C.1 C.2.1 hd ht (fun h => ?_) (fun h => ?_)
  · rw [if_pos h] at hf
    exact K1 hf H locs ls hP hD hS hl
  · rw [if_neg h] at hf
    exact K2 hf H locs ls hP hD hS hl
theorem zr_icmp_ne {l : Launch} {d : zD} {F : zF} {k n : Nat} {ws : va_W} {lv : List (Option Value)} {pc : Nat} {st : List Value} {own : String} {cc : ByteArray} {nL fr lo : Nat} {x y : Int32} {off : Int} {β : Type} {X Y : Option β} {out : β} (tgt pc' : Nat) (C : zOk d F own cc nL fr lo) (hd : decode cc pc = .ok (.if_icmp .ne off, 3)) (ht : (pc : Int) + off = (tgt : Int)) (hp : pc + 3 = pc') (hf : (if x = y then X else Y) = some out) (K1 : Y = some out → V l d F k n ws lv tgt st) (K2 : X = some out → V l d F k n ws lv pc' st) : V l d F k n ws lv pc (.int y :: .int x :: st) := by
  subst hp
  obtain ⟨p, e, R, s, m, args, below, meth, c, Q, A⟩ := F
  intro H locs ls hP hD hS hl
  refine lv_icmp_ne C.1 C.2.1 hd ht (fun h => ?_) (fun h => ?_)
  · rw [if_neg h] at hf
    exact K1 hf H locs ls hP hD hS hl
  · rw [if_pos h] at hf
    exact K2 hf H locs ls hP hD hS hl
theorem zr_if_ne {l : Launch} {d : zD} {F : zF} {k n : Nat} {ws : va_W} {lv : List (Option Value)} {pc : Nat} {st : List Value} {own : String} {cc : ByteArray} {nL fr lo : Nat} {x : Int32} {off : Int} {β : Type} {X Y : Option β} {out : β} (tgt pc' : Nat) (C : zOk d F own cc nL fr lo) (hd : decode cc pc = .ok (.ifCond .ne off, 3)) (ht : (pc : Int) + off = (tgt : Int)) (hp : pc + 3 = pc') (hf : (if x = 0 then X else Y) = some out) (K1 : Y = some out → V l d F k n ws lv tgt st) (K2 : X = some out → V l d F k n ws lv pc' st) : V l d F k n ws lv pc (.int x :: st) := by
  subst hp
  obtain ⟨p, e, R, s, m, args, below, meth, c, Q, A⟩ := F
  intro H locs ls hP hD hS hl
  refine lv_if_ne C.1 C.2.1 hd ht (fun h => ?_) (fun h => ?_)
  · rw [if_neg h] at hf
    exact K1 hf H locs ls hP hD hS hl
  · rw [if_pos h] at hf
    exact K2 hf H locs ls hP hD hS hl
theorem zr_icmp_lt {l : Launch} {d : zD} {F : zF} {k n : Nat} {ws : va_W} {lv : List (Option Value)} {pc : Nat} {st : List Value} {own : String} {cc : ByteArray} {nL fr lo : Nat} {x y : Int32} {off : Int} {β : Type} {X Y : Option β} {out : β} (tgt pc' : Nat) (C : zOk d F own cc nL fr lo) (hd : decode cc pc = .ok (.if_icmp .lt off, 3)) (ht : (pc : Int) + off = (tgt : Int)) (hp : pc + 3 = pc') (hf : (if x < y then X else Y) = some out) (K1 : X = some out → V l d F k n ws lv tgt st) (K2 : Y = some out → V l d F k n ws lv pc' st) : V l d F k n ws lv pc (.int y :: .int x :: st) := by
  subst hp
  obtain ⟨p, e, R, s, m, args, below, meth, c, Q, A⟩ := F
  intro H locs ls hP hD hS hl
  refine lv_icmp_lt C.1 C.2.1 hd ht (fun h => ?_) (fun h => ?_)
  · rw [if_pos h] at hf
    exact K1 hf H locs ls hP hD hS hl
  · rw [if_neg h] at hf
    exact K2 hf H locs ls hP hD hS hl
theorem zr_if_lt {l : Launch} {d : zD} {F : zF} {k n : Nat} {ws : va_W} {lv : List (Option Value)} {pc : Nat} {st : List Value} {own : String} {cc : ByteArray} {nL fr lo : Nat} {x : Int32} {off : Int} {β : Type} {X Y : Option β} {out : β} (tgt pc' : Nat) (C : zOk d F own cc nL fr lo) (hd : decode cc pc = .ok (.ifCond .lt off, 3)) (ht : (pc : Int) + off = (tgt : Int)) (hp : pc + 3 = pc') (hf : (if x < 0 then X else Y) = some out) (K1 : X = some out → V l d F k n ws lv tgt st) (K2 : Y = some out → V l d F k n ws lv pc' st) : V l d F k n ws lv pc (.int x :: st) := by
  subst hp
  obtain ⟨p, e, R, s, m, args, below, meth, c, Q, A⟩ := F
  intro H locs ls hP hD hS hl
  refine lv_if_lt C.1 C.2.1 hd ht (fun h => ?_) (fun h => ?_)
  · rw [if_pos h] at hf
    exact K1 hf H locs ls hP hD hS hl
  · rw [if_neg h] at hf
    exact K2 hf H locs ls hP hD hS hl
theorem zr_icmp_ge {l : Launch} {d : zD} {F : zF} {k n : Nat} {ws : va_W} {lv : List (Option Value)} {pc : Nat} {st : List Value} {own : String} {cc : ByteArray} {nL fr lo : Nat} {x y : Int32} {off : Int} {β : Type} {X Y : Option β} {out : β} (tgt pc' : Nat) (C : zOk d F own cc nL fr lo) (hd : decode cc pc = .ok (.if_icmp .ge off, 3)) (ht : (pc : Int) + off = (tgt : Int)) (hp : pc + 3 = pc') (hf : (if y ≤ x then X else Y) = some out) (K1 : X = some out → V l d F k n ws lv tgt st) (K2 : Y = some out → V l d F k n ws lv pc' st) : V l d F k n ws lv pc (.int y :: .int x :: st) := by
  subst hp
  obtain ⟨p, e, R, s, m, args, below, meth, c, Q, A⟩ := F
  intro H locs ls hP hD hS hl
  refine lv_icmp_ge C.1 C.2.1 hd ht (fun h => ?_) (fun h => ?_)
  · rw [if_pos h] at hf
    exact K1 hf H locs ls hP hD hS hl
  · rw [if_neg h] at hf
    exact K2 hf H locs ls hP hD hS hl
theorem zr_if_ge {l : Launch} {d : zD} {F : zF} {k n : Nat} {ws : va_W} {lv : List (Option Value)} {pc : Nat} {st : List Value} {own : String} {cc : ByteArray} {nL fr lo : Nat} {x : Int32} {off : Int} {β : Type} {X Y : Option β} {out : β} (tgt pc' : Nat) (C : zOk d F own cc nL fr lo) (hd : decode cc pc = .ok (.ifCond .ge off, 3)) (ht : (pc : Int) + off = (tgt : Int)) (hp : pc + 3 = pc') (hf : (if 0 ≤ x then X else Y) = some out) (K1 : X = some out → V l d F k n ws lv tgt st) (K2 : Y = some out → V l d F k n ws lv pc' st) : V l d F k n ws lv pc (.int x :: st) := by
  subst hp
  obtain ⟨p, e, R, s, m, args, below, meth, c, Q, A⟩ := F
  intro H locs ls hP hD hS hl
  refine lv_if_ge C.1 C.2.1 hd ht (fun h => ?_) (fun h => ?_)
  · rw [if_pos h] at hf
    exact K1 hf H locs ls hP hD hS hl
  · rw [if_neg h] at hf
    exact K2 hf H locs ls hP hD hS hl
theorem zr_icmp_gt {l : Launch} {d : zD} {F : zF} {k n : Nat} {ws : va_W} {lv : List (Option Value)} {pc : Nat} {st : List Value} {own : String} {cc : ByteArray} {nL fr lo : Nat} {x y : Int32} {off : Int} {β : Type} {X Y : Option β} {out : β} (tgt pc' : Nat) (C : zOk d F own cc nL fr lo) (hd : decode cc pc = .ok (.if_icmp .gt off, 3)) (ht : (pc : Int) + off = (tgt : Int)) (hp : pc + 3 = pc') (hf : (if y < x then X else Y) = some out) (K1 : X = some out → V l d F k n ws lv tgt st) (K2 : Y = some out → V l d F k n ws lv pc' st) : V l d F k n ws lv pc (.int y :: .int x :: st) := by
  subst hp
  obtain ⟨p, e, R, s, m, args, below, meth, c, Q, A⟩ := F
  intro H locs ls hP hD hS hl
  refine lv_icmp_gt C.1 C.2.1 hd ht (fun h => ?_) (fun h => ?_)
  · rw [if_pos h] at hf
    exact K1 hf H locs ls hP hD hS hl
  · rw [if_neg h] at hf
    exact K2 hf H locs ls hP hD hS hl
theorem zr_if_gt {l : Launch} {d : zD} {F : zF} {k n : Nat} {ws : va_W} {lv : List (Option Value)} {pc : Nat} {st : List Value} {own : String} {cc : ByteArray} {nL fr lo : Nat} {x : Int32} {off : Int} {β : Type} {X Y : Option β} {out : β} (tgt pc' : Nat) (C : zOk d F own cc nL fr lo) (hd : decode cc pc = .ok (.ifCond .gt off, 3)) (ht : (pc : Int) + off = (tgt : Int)) (hp : pc + 3 = pc') (hf : (if 0 < x then X else Y) = some out) (K1 : X = some out → V l d F k n ws lv tgt st) (K2 : Y = some out → V l d F k n ws lv pc' st) : V l d F k n ws lv pc (.int x :: st) := by
  subst hp
  obtain ⟨p, e, R, s, m, args, below, meth, c, Q, A⟩ := F
  intro H locs ls hP hD hS hl
  refine lv_if_gt C.1 C.2.1 hd ht (fun h => ?_) (fun h => ?_)
  · rw [if_pos h] at hf
    exact K1 hf H locs ls hP hD hS hl
  · rw [if_neg h] at hf
    exact K2 hf H locs ls hP hD hS hl
theorem zr_icmp_le {l : Launch} {d : zD} {F : zF} {k n : Nat} {ws : va_W} {lv : List (Option Value)} {pc : Nat} {st : List Value} {own : String} {cc : ByteArray} {nL fr lo : Nat} {x y : Int32} {off : Int} {β : Type} {X Y : Option β} {out : β} (tgt pc' : Nat) (C : zOk d F own cc nL fr lo) (hd : decode cc pc = .ok (.if_icmp .le off, 3)) (ht : (pc : Int) + off = (tgt : Int)) (hp : pc + 3 = pc') (hf : (if x ≤ y then X else Y) = some out) (K1 : X = some out → V l d F k n ws lv tgt st) (K2 : Y = some out → V l d F k n ws lv pc' st) : V l d F k n ws lv pc (.int y :: .int x :: st) := by
  subst hp
  obtain ⟨p, e, R, s, m, args, below, meth, c, Q, A⟩ := F
  intro H locs ls hP hD hS hl
  refine lv_icmp_le C.1 C.2.1 hd ht (fun h => ?_) (fun h => ?_)
  · rw [if_pos h] at hf
    exact K1 hf H locs ls hP hD hS hl
  · rw [if_neg h] at hf
    exact K2 hf H locs ls hP hD hS hl
theorem zr_if_le {l : Launch} {d : zD} {F : zF} {k n : Nat} {ws : va_W} {lv : List (Option Value)} {pc : Nat} {st : List Value} {own : String} {cc : ByteArray} {nL fr lo : Nat} {x : Int32} {off : Int} {β : Type} {X Y : Option β} {out : β} (tgt pc' : Nat) (C : zOk d F own cc nL fr lo) (hd : decode cc pc = .ok (.ifCond .le off, 3)) (ht : (pc : Int) + off = (tgt : Int)) (hp : pc + 3 = pc') (hf : (if x ≤ 0 then X else Y) = some out) (K1 : X = some out → V l d F k n ws lv tgt st) (K2 : Y = some out → V l d F k n ws lv pc' st) : V l d F k n ws lv pc (.int x :: st) := by
  subst hp
  obtain ⟨p, e, R, s, m, args, below, meth, c, Q, A⟩ := F
  intro H locs ls hP hD hS hl
  refine lv_if_le C.1 C.2.1 hd ht (fun h => ?_) (fun h => ?_)
  · rw [if_pos h] at hf
    exact K1 hf H locs ls hP hD hS hl
  · rw [if_neg h] at hf
    exact K2 hf H locs ls hP hD hS hl
theorem zr_name {l : Launch} {d : zD} {F : zF} {k n : Nat} {ws : va_W} {lv : List (Option Value)} {pc : Nat} {st : List Value} {x : Int32} {β : Type} {f : Int32 → Option β} {out : β} (hf : zlt x f = some out) (K : ∀ y : Int32, f y = some out → V l d F k n ws lv pc (.int y :: st)) : V l d F k n ws lv pc (.int x :: st) := K x hf
theorem zr_namel {l : Launch} {d : zD} {F : zF} {k n : Nat} {ws : va_W} {lv : List (Option Value)} {pc : Nat} {st : List Value} {x : Int64} {β : Type} {f : Int64 → Option β} {out : β} (hf : zlt x f = some out) (K : ∀ y : Int64, f y = some out → V l d F k n ws lv pc (.long y :: st)) : V l d F k n ws lv pc (.long x :: st) := K x hf
theorem zr_less {l : Launch} {d : zD} {F : zF} {k n : Nat} {ws : va_W} {lv lv' : List (Option Value)} {pc : Nat} {st : List Value} (hz : zle lv' lv) (K : V l d F k n ws lv' pc st) : V l d F k n ws lv pc st := by
  obtain ⟨p, e, R, s, m, args, below, meth, c, Q, A⟩ := F
  intro H locs ls hP hD hS hl
  exact K H locs ls hP hD hS (zh_le hl hz)
theorem zr_iret {l : Launch} {d : zD} {F : zF} {ws : va_W} {lv : List (Option Value)} {pc : Nat} {own : String} {cc : ByteArray} {nL fr lo : Nat} {v : Int32} (C : zOk d F own cc nL fr lo) (hd : decode cc pc = .ok (.ireturn, 1)) (T : zRt d F (some .int) (some (.int v)) ws) : V l d F 0 0 ws lv pc [.int v] := by
  obtain ⟨p, e, R, s, m, args, below, meth, c, Q, A⟩ := F
  intro H locs ls hP hD hS hl
  obtain ⟨rfl, hr, hlk⟩ := T
  exact W.iret C.1 C.2.1 hr (fun t ht hW => ⟨⟨rfl, by rw [ht]; exact hP, va_K.moved hW.alike C.2.2.2.2.2.2.1, hD⟩, hS.F ht⟩) hS.2.2 hd hlk
theorem zr_zret {l : Launch} {d : zD} {F : zF} {ws : va_W} {lv : List (Option Value)} {pc : Nat} {own : String} {cc : ByteArray} {nL fr lo : Nat} {v : Int32} {ty : FieldType} (C : zOk d F own cc nL fr lo) (hd : decode cc pc = .ok (.ireturn, 1)) (hn : narrow ty (.int v) = .int v) (T : zRt d F (some ty) (some (.int v)) ws) : V l d F 0 0 ws lv pc [.int v] := by
  obtain ⟨p, e, R, s, m, args, below, meth, c, Q, A⟩ := F
  intro H locs ls hP hD hS hl
  obtain ⟨rfl, hr, hlk⟩ := T
  exact W.zret C.1 C.2.1 hr hn (fun t ht hW => ⟨⟨rfl, by rw [ht]; exact hP, va_K.moved hW.alike C.2.2.2.2.2.2.1, hD⟩, hS.F ht⟩) hS.2.2 hd hlk
theorem zr_lret {l : Launch} {d : zD} {F : zF} {ws : va_W} {lv : List (Option Value)} {pc : Nat} {own : String} {cc : ByteArray} {nL fr lo : Nat} {v : Int64} (C : zOk d F own cc nL fr lo) (hd : decode cc pc = .ok (.lreturn, 1)) (T : zRt d F (some .long) (some (.long v)) ws) : V l d F 0 0 ws lv pc [.long v] := by
  obtain ⟨p, e, R, s, m, args, below, meth, c, Q, A⟩ := F
  intro H locs ls hP hD hS hl
  obtain ⟨rfl, hr, hlk⟩ := T
  exact W.lret C.1 C.2.1 hr (fun t ht hW => ⟨⟨rfl, by rw [ht]; exact hP, va_K.moved hW.alike C.2.2.2.2.2.2.1, hD⟩, hS.F ht⟩) hS.2.2 hd hlk
theorem zr_vret {l : Launch} {d : zD} {F : zF} {ws : va_W} {lv : List (Option Value)} {pc : Nat} {own : String} {cc : ByteArray} {nL fr lo : Nat} (C : zOk d F own cc nL fr lo) (hd : decode cc pc = .ok (.return_, 1)) (T : zRt d F none none ws) : V l d F 0 0 ws lv pc [] := by
  obtain ⟨p, e, R, s, m, args, below, meth, c, Q, A⟩ := F
  intro H locs ls hP hD hS hl
  obtain ⟨rfl, hr, hlk⟩ := T
  exact W.vret C.1 C.2.1 hr (fun t ht hW => ⟨⟨rfl, by rw [ht]; exact hP, va_K.moved hW.alike C.2.2.2.2.2.2.1, hD⟩, hS.F ht⟩) hS.2.2 hd hlk
end
section
/-! The rows of the heap: fields, arrays, calls. -/
theorem z_goodIn {y : MethodName} {cy : ByteArray} {nY : Nat} {ret : Option FieldType} (h : Cond.code y cy nY ret ∈ zW) : GoodIn zW (.code y cy nY ret :: zW) := fun w hw => by
  rcases List.mem_cons.mp hw with e | e
  · rw [e]
    exact ⟨h, good_of_word (List.mem_filter.mp h).2⟩
  · exact ⟨e, good_of_word (List.mem_filter.mp e).2⟩
theorem z_w {w : Cond} (i : Nat) (h : lw_tbl[i]? = some w) (hg : goodWord w = true) : w ∈ zW := List.mem_filter.mpr ⟨List.mem_of_getElem? h, hg⟩
theorem z_sub (ws : List Cond) (ps : List Nat) (hp : ws = ps.filterMap (fun i => lw_tbl[i]?)) (hg : ws.all goodWord = true) : ∀ w ∈ ws, w ∈ zW := by
  intro w hw
  have h1 := List.all_eq_true.mp hg w hw
  rw [hp] at hw
  obtain ⟨i, -, hi⟩ := List.mem_filterMap.mp hw
  exact z_w i hi h1
theorem zr_get {l : Launch} {d : zD} {F : zF} {k n : Nat} {ws : va_W} {lv : List (Option Value)} {pc : Nat} {st : List Value} {own : String} {cc : ByteArray} {nL fr lo : Nat} {ci N idx a : Nat} {Cn : String} {T : u_T} {fs : List Value} {v : Value} (q0 : Nat) (hin : ∀ w ∈ u_ws Cn T N, w ∈ zW) (he : ws[q0]? = some (a, .inr (ci, fs))) (hc : classes[ci]? = some (Cn, T, N)) (j : Nat) (hj : j < N) (hv : fs[j]? = some v) (hT : (T j).1 = Cn) (hq : Cond.fieldLink own idx Cn (T j).2.1 (T j).2.2.1 ∈ zW) (pc' : Nat) (C : zOk d F own cc nL fr lo) (hd : decode cc pc = .ok (.getfield idx, 3)) (hp : pc + 3 = pc') (K : V l d F k n ws lv pc' (v :: st)) : V l d F k n ws lv pc (.ref a :: st) := by
  subst hp
  obtain ⟨p, e, R, s, m, args, below, meth, c, Q, A⟩ := F
  intro H locs ls hP hD hS hl
  exact va_get (D := d.1) C.1 C.2.1 C.2.2.2.2.1 hin C.2.2.2.1 C.2.2.2.2.2.2.1 hP q0 he hc j hj (C.2.2.2.2.1 _ hq) (fun x hx => by rw [← hT]; exact hx) hv hd (K H locs ls hP hD hS hl)
theorem zr_put {l : Launch} {d : zD} {F : zF} {k n : Nat} {ws : va_W} {lv : List (Option Value)} {pc : Nat} {st : List Value} {own : String} {cc : ByteArray} {nL fr lo : Nat} {ci N idx a : Nat} {Cn : String} {T : u_T} {fs : List Value} {v : Value} {ty : FieldType} {ws' : va_W} (q0 : Nat) (hin : ∀ w ∈ u_ws Cn T N, w ∈ zW) (ty0 : Nat → FieldType) (hty : ∀ k, k < N → parseFieldDescriptor (T k).2.2.1 = some (ty0 k)) (hnm : ∀ a, a < N → ∀ b, b < N → a ≠ b → (T a).2.1 ≠ (T b).2.1) (he : ws[q0]? = some (a, .inr (ci, fs))) (hc : classes[ci]? = some (Cn, T, N)) (j : Nat) (hj : j < N) (hT : (T j).1 = Cn) (hfin : (T j).2.2.2 = false) (htj : ty0 j = ty) (hn : narrow ty v = v) (hfit : fits ty v = true) (hlen : j < fs.length) (hq : Cond.fieldLink own idx Cn (T j).2.1 (T j).2.2.1 ∈ zW) (hw : ws.set q0 (a, .inr (ci, fs.set j v)) = ws') (pc' : Nat) (C : zOk d F own cc nL fr lo) (hd : decode cc pc = .ok (.putfield idx, 3)) (hp : pc + 3 = pc') (K : V l d F k n ws' lv pc' st) : V l d F k n ws lv pc (v :: .ref a :: st) := by
  subst hp
  subst hw
  subst htj
  obtain ⟨p, e, R, s, m, args, below, meth, c, Q, A⟩ := F
  intro H locs ls hP hD hS hl
  exact va_put (D := d.1) C.1 C.2.1 C.2.2.2.2.1 hin ty0 hty hnm C.2.2.2.1 C.2.2.2.2.2.2.1 hP hD hS q0 he hc j hj (C.2.2.2.2.1 _ hq) (fun x hx => by rw [← hT]; exact hx) hfin (hty j hj) hn hfit hlen hd (fun H1 locs1 hP1 hD1 hS1 => K H1 locs1 ls hP1 hD1 hS1 hl)
theorem zr_iald {l : Launch} {d : zD} {F : zF} {k n : Nat} {ws : va_W} {lv : List (Option Value)} {pc : Nat} {st : List Value} {own : String} {cc : ByteArray} {nL fr lo : Nat} {a N : Nat} {f : Nat → Int32} {i : Int32} {β : Type} {X : Option β} {out : β} (q0 : Nat) (he : ws[q0]? = some (a, .inl (d.2.1, N, .inl f))) (pc' : Nat) (C : zOk d F own cc nL fr lo) (hd : decode cc pc = .ok (.iaload, 1)) (hp : pc + 1 = pc') (hf : zin i N X = some out) (K : X = some out → V l d F k n ws lv pc' (.int (f i.toNatClampNeg) :: st)) : V l d F k n ws lv pc (.int i :: .ref a :: st) := by
  subst hp
  unfold zin at hf
  split at hf
  · cases hf
  · rename_i hin
    obtain ⟨p, e, R, s, m, args, below, meth, c, Q, A⟩ := F
    intro H locs ls hP hD hS hl
    exact va_iald (D := d.1) C.1 C.2.1 C.2.2.2.2.2.2.1 hP q0 0 he rfl hin hd (K hf H locs ls hP hD hS hl)
theorem zr_zald {l : Launch} {d : zD} {F : zF} {k n : Nat} {ws : va_W} {lv : List (Option Value)} {pc : Nat} {st : List Value} {own : String} {cc : ByteArray} {nL fr lo : Nat} {a N : Nat} {f : Nat → Int32} {i : Int32} {β : Type} {X : Option β} {out : β} (q0 : Nat) (he : ws[q0]? = some (a, .inl (d.2.2.1, N, .inl f))) (pc' : Nat) (C : zOk d F own cc nL fr lo) (hd : decode cc pc = .ok (.baload, 1)) (hp : pc + 1 = pc') (hf : zin i N X = some out) (K : X = some out → V l d F k n ws lv pc' (.int (f i.toNatClampNeg) :: st)) : V l d F k n ws lv pc (.int i :: .ref a :: st) := by
  subst hp
  unfold zin at hf
  split at hf
  · cases hf
  · rename_i hin
    obtain ⟨p, e, R, s, m, args, below, meth, c, Q, A⟩ := F
    intro H locs ls hP hD hS hl
    exact va_zald (D := d.1) C.1 C.2.1 C.2.2.2.2.2.2.1 hP q0 1 he rfl hin hd (K hf H locs ls hP hD hS hl)
theorem zr_lald {l : Launch} {d : zD} {F : zF} {k n : Nat} {ws : va_W} {lv : List (Option Value)} {pc : Nat} {st : List Value} {own : String} {cc : ByteArray} {nL fr lo : Nat} {a N : Nat} {f : Nat → Int64} {i : Int32} {β : Type} {X : Option β} {out : β} (q0 : Nat) (he : ws[q0]? = some (a, .inl (d.2.2.2.1, N, .inr (.inl f)))) (pc' : Nat) (C : zOk d F own cc nL fr lo) (hd : decode cc pc = .ok (.laload, 1)) (hp : pc + 1 = pc') (hf : zin i N X = some out) (K : X = some out → V l d F k n ws lv pc' (.long (f i.toNatClampNeg) :: st)) : V l d F k n ws lv pc (.int i :: .ref a :: st) := by
  subst hp
  unfold zin at hf
  split at hf
  · cases hf
  · rename_i hin
    obtain ⟨p, e, R, s, m, args, below, meth, c, Q, A⟩ := F
    intro H locs ls hP hD hS hl
    exact va_lald (D := d.1) C.1 C.2.1 C.2.2.2.2.2.2.1 hP q0 2 he rfl hin hd (K hf H locs ls hP hD hS hl)
theorem zr_iast {l : Launch} {d : zD} {F : zF} {k n : Nat} {ws : va_W} {lv : List (Option Value)} {pc : Nat} {st : List Value} {own : String} {cc : ByteArray} {nL fr lo : Nat} {a N : Nat} {f : Nat → Int32} {i x : Int32} {β : Type} {X : Option β} {out : β} {ws' : va_W} (q0 : Nat) (he : ws[q0]? = some (a, .inl (d.2.1, N, .inl f))) (hw : ws.set q0 (a, .inl (d.2.1, N, .inl (upd f i.toNatClampNeg (x)))) = ws') (pc' : Nat) (C : zOk d F own cc nL fr lo) (hd : decode cc pc = .ok (.iastore, 1)) (hp : pc + 1 = pc') (hf : zin i N X = some out) (K : X = some out → V l d F k n ws' lv pc' st) : V l d F k n ws lv pc (.int x :: .int i :: .ref a :: st) := by
  subst hp
  subst hw
  unfold zin at hf
  split at hf
  · cases hf
  · rename_i hin
    obtain ⟨p, e, R, s, m, args, below, meth, c, Q, A⟩ := F
    intro H locs ls hP hD hS hl
    exact va_iast (D := d.1) C.1 C.2.1 C.2.2.2.2.2.2.1 hP hD hS q0 0 he rfl hin hd (fun H1 locs1 hP1 hD1 hS1 => K hf H1 locs1 ls hP1 hD1 hS1 hl)
theorem zr_zast {l : Launch} {d : zD} {F : zF} {k n : Nat} {ws : va_W} {lv : List (Option Value)} {pc : Nat} {st : List Value} {own : String} {cc : ByteArray} {nL fr lo : Nat} {a N : Nat} {f : Nat → Int32} {i x : Int32} {β : Type} {X : Option β} {out : β} {ws' : va_W} (q0 : Nat) (he : ws[q0]? = some (a, .inl (d.2.2.1, N, .inl f))) (hw : ws.set q0 (a, .inl (d.2.2.1, N, .inl (upd f i.toNatClampNeg (vp_nar .boolean x)))) = ws') (pc' : Nat) (C : zOk d F own cc nL fr lo) (hd : decode cc pc = .ok (.bastore, 1)) (hp : pc + 1 = pc') (hf : zin i N X = some out) (K : X = some out → V l d F k n ws' lv pc' st) : V l d F k n ws lv pc (.int x :: .int i :: .ref a :: st) := by
  subst hp
  subst hw
  unfold zin at hf
  split at hf
  · cases hf
  · rename_i hin
    obtain ⟨p, e, R, s, m, args, below, meth, c, Q, A⟩ := F
    intro H locs ls hP hD hS hl
    exact va_zast (D := d.1) C.1 C.2.1 C.2.2.2.2.2.2.1 hP hD hS q0 1 he rfl hin hd (fun H1 locs1 hP1 hD1 hS1 => K hf H1 locs1 ls hP1 hD1 hS1 hl)
theorem zr_alen {l : Launch} {d : zD} {F : zF} {k n : Nat} {ws : va_W} {lv : List (Option Value)} {pc : Nat} {st : List Value} {own : String} {cc : ByteArray} {nL fr lo : Nat} {a N t0 : Nat} {cA : ClassId} {x : vp_A} {ty : FieldType} (q0 : Nat) (he : ws[q0]? = some (a, .inl (cA, x))) (ht : (zt d)[t0]? = some (cA, ty)) (pc' : Nat) (C : zOk d F own cc nL fr lo) (hd : decode cc pc = .ok (.arraylength, 1)) (hp : pc + 1 = pc') (K : V l d F k n ws lv pc' (.int (nI x.1) :: st)) : V l d F k n ws lv pc (.ref a :: st) := by
  subst hp
  obtain ⟨p, e, R, s, m, args, below, meth, c, Q, A⟩ := F
  intro H locs ls hP hD hS hl
  exact va_alen (D := d.1) C.1 C.2.1 C.2.2.2.2.2.2.1 hP q0 t0 he ht rfl hd (K H locs ls hP hD hS hl)
theorem z_blind {d : zD} {av : List Value} {sz : Nat} {ws : va_W} : FrameBlind (va_Pc av (fun U => U.heap.size = sz ∧ va_P d.1 classes ws U.heap ∧ va_K d.1 classes (zt d) U ∧ va_D (fun _ => True) ws ∧ zEc d.2.2.2.2.2 ∧ d.2.2.2.2.2 (va_A ws sz) U)) := fun a U g mk q => by
  obtain ⟨q0, q1, qP, qK, qD, qc, qE⟩ := q
  exact ⟨q0, q1, qP, va_K.moved (u := U) (U := U.calling g mk a) (Vm.Alike.refl U.vm) qK, qD, qc, qc.2.2 _ U g mk a qE⟩
theorem z_env {s U : State} {E : (Nat → Prop) → State → Prop} {A : Nat → Prop} {ws : va_W} {H : Heap} {locs : List Loc} (hc : zEc E) (h : E A s) (hA : ∀ q : Nat, s.heap.size ≤ q → A q) (hD : va_D A ws) (hS : va_S A s.heap H locs) (hU : U.heap = H) (hW : s.WarmedH U.vm) : E (va_A ws H.size) U := by
  refine hc.1 A _ U (fun q h => ?_) (hc.2.1 A s U hW (by rw [hU]; exact hS.1) (fun a h1 h2 => by rw [hU]; exact hS.2.1 a h1 h2) h)
  rcases h with ⟨k, e, h⟩ | h
  · exact hD.2 k _ h
  · exact hA q (Nat.le_trans hS.1 h)
theorem z_go {p : Program} {l : Launch} {e : Env} {R : Room} {s : State} {m : MethodId} {args : Array Value} {below : List Frame} {meth : Method} {c : Code} {H : Heap} {locs : List Loc} {Q : State → Prop} {A : Nat → Prop} {d : zD} {pc : Nat} {ls : Array Slot} {rest st0 : List Value} {a : Array Value} {r : Option Value} {ws ws' : va_W} {lv : List (Option Value)} (hr : va_Run p l e R s m args below meth c H locs 0 0 0 0 (F0 m pc ls st0) rest (zQ r d ws' (va_A ws H.size) a) (va_A ws H.size)) (hA : ∀ q : Nat, s.heap.size ≤ q → A q) (hD : va_D A ws) (hS : va_S A s.heap H locs) (hl : zh ls c.maxLocals lv) (K : V l d (p, e, R, s, m, args, below, meth, c, Q, A) 0 0 ws' lv (pc + 3) (r.toList ++ rest)) : W p l e R s m args below meth c H locs 0 0 Q (F0 m pc ls st0) := by
  have hfree : ∀ q, va_A ws H.size q → A q := fun q h => by
    rcases h with ⟨k, e, h⟩ | h
    · exact hD.2 k _ h
    · exact hA q (Nat.le_trans hS.1 h)
  intro T hT X
  obtain ⟨v, st₀, t, T', L, h0, X', hL, e1, e2, ⟨⟨hv, hP1, hK1, hD1⟩, hz, hk⟩, st⟩ := hr T hT X
  cases hv
  rw [h0] at hz hk
  obtain ⟨t2, a1, b1⟩ := K T'.heap (locs ++ L) ls (by rw [e1]; exact hP1) (hD1.weaken (fun _ _ _ h => hfree _ h)) ⟨Nat.le_trans hS.1 (by rw [e1]; exact hz), fun q h1 h2 => by rw [e1, hk q (Nat.lt_of_lt_of_le h1 hS.1) (fun z => h2 (hfree q z))]; exact hS.2.1 q h1 h2, fun q hq => by
      rcases List.mem_append.mp hq with h | h
      · exact hS.2.2 q h
      · exact hfree _ (hL q h)⟩ hl T' rfl X'
  exact ⟨t2, st t2 a1, b1⟩
/-- what the tables say of an instance method, of a static one -/
def zY (y : MethodName) (cy : ByteArray) (nY : Nat) (ret : Option FieldType) (np : Nat) : Prop := Cond.code y cy nY ret ∈ zW ∧ Cond.initialized y.cls ∈ zW ∧ y.cls ≠ "java/lang/invoke/MethodHandle" ∧ y.cls ≠ "java/lang/invoke/VarHandle" ∧ (parseMethodDescriptor y.desc).map (fun d => d.parameters.length) = some np
theorem z_len {y : MethodName} {np : Nat} (h : (parseMethodDescriptor y.desc).map (fun d => d.parameters.length) = some np) : ∀ sig, parseMethodDescriptor y.desc = some sig → np = sig.parameters.length := fun sig hs => by
  rw [hs] at h
  exact (Option.some.inj h).symm
theorem zr_callV {l : Launch} {d : zD} {F : zF} {ws : va_W} {lv : List (Option Value)} {pc : Nat} {own : String} {cc : ByteArray} {nL fr lo : Nat} {y : MethodName} {cy : ByteArray} {nY fY lY np idx ci b N : Nat} {ret : Option FieldType} {As rest st0 : List Value} {ws' : va_W} {r : Option Value} {Cn : String} {T : u_T} {fs : List Value} (hy : zY y cy nY ret np) (hy2 : Cond.instanceMethod y ∈ zW ∧ Cond.selects Cn y y ∈ zW) (q0 : Nat) (he : ws[q0]? = some (b, .inr (ci, fs))) (hc : classes[ci]? = some (Cn, T, N)) (M : zM l y cy nY ret fY lY d (.ref b :: As) ws ws' r) (hAs : As.length = np) (hst : As.reverse ++ .ref b :: rest = st0) (pc' : Nat) (C : zOk d F own cc nL fr lo) (hd : decode cc pc = .ok (.invokevirtual idx, 3)) (hp : pc + 3 = pc') (hq : Cond.methodLink own idx y ∈ zW) (hm : fY + 1 ≤ fr ∧ 8 + (nY + 11) + lY ≤ lo) (hr : (rest.map fun v => v.category).sum ≤ 8) (K : V l d F 0 0 ws' lv pc' (r.toList ++ rest)) : V l d F 0 0 ws lv pc st0 := by
  subst hp
  subst hst
  obtain ⟨p, e, R, s, m, args, below, meth, c, Q, A⟩ := F
  intro H locs ls hP hD hS hl
  have hts := C.2.2.2.2.1
  have hK := C.2.2.2.2.2.2.1
  exact z_go (va_runV (As := As) (rest := rest) (Ts := zW) ⟨C.1, C.2.1, rfl, C.2.2.2.1, hts⟩ (M H.size) ⟨⟨rfl, rfl, Nat.le_trans hm.1 C.2.2.2.2.2.2.2.1, Nat.le_trans hm.2 C.2.2.2.2.2.2.2.2.1, pay_in hts (z_goodIn hy.1), List.mem_cons_self, hts _ hy.1, hts _ hy.2.1, ⟨hy.2.2.1, hy.2.2.2.1⟩, z_len hy.2.2.2.2, hts _ hq⟩, hts _ hy2.1, hts _ hy2.2⟩ ⟨z_blind, va_recv hK hP hc he, fun U hU hW => ⟨rfl, by rw [hU], by rw [hU]; exact hP, va_K.moved hW.alike hK, hD.weaken (fun _ _ _ _ => trivial), C.2.2.2.2.2.2.2.2.2.1, z_env C.2.2.2.2.2.2.2.2.2.1 C.2.2.2.2.2.2.2.2.2.2 C.2.2.2.2.2.1 hD hS hU hW⟩⟩ rfl hAs hl.1 rfl (lv_room hr) hd ⟨Nat.zero_le _, Nat.zero_le _⟩) C.2.2.2.2.2.1 hD hS hl K
theorem zr_callS {l : Launch} {d : zD} {F : zF} {ws : va_W} {lv : List (Option Value)} {pc : Nat} {own : String} {cc : ByteArray} {nL fr lo : Nat} {y : MethodName} {cy : ByteArray} {nY fY lY np idx : Nat} {ret : Option FieldType} {As rest st0 : List Value} {ws' : va_W} {r : Option Value} (hy : zY y cy nY ret np) (hy2 : Cond.static y ∈ zW) (M : zM l y cy nY ret fY lY d As ws ws' r) (hAs : As.length = np) (hst : As.reverse ++ rest = st0) (pc' : Nat) (C : zOk d F own cc nL fr lo) (hd : decode cc pc = .ok (.invokestatic idx, 3)) (hp : pc + 3 = pc') (hq : Cond.methodLink own idx y ∈ zW) (hm : fY + 1 ≤ fr ∧ 8 + (nY + 11) + lY ≤ lo) (hr : (rest.map fun v => v.category).sum ≤ 8) (K : V l d F 0 0 ws' lv pc' (r.toList ++ rest)) : V l d F 0 0 ws lv pc st0 := by
  subst hp
  subst hst
  obtain ⟨p, e, R, s, m, args, below, meth, c, Q, A⟩ := F
  intro H locs ls hP hD hS hl
  have hts := C.2.2.2.2.1
  have hK := C.2.2.2.2.2.2.1
  exact z_go (va_runS (As := As) (rest := rest) (Ts := zW) ⟨C.1, C.2.1, rfl, C.2.2.2.1, hts⟩ (M H.size) ⟨⟨rfl, rfl, Nat.le_trans hm.1 C.2.2.2.2.2.2.2.1, Nat.le_trans hm.2 C.2.2.2.2.2.2.2.2.1, pay_in hts (z_goodIn hy.1), List.mem_cons_self, hts _ hy.1, hts _ hy.2.1, ⟨hy.2.2.1, hy.2.2.2.1⟩, z_len hy.2.2.2.2, hts _ hq⟩, hts _ hy2⟩ ⟨z_blind, fun U hU hW => ⟨rfl, by rw [hU], by rw [hU]; exact hP, va_K.moved hW.alike hK, hD.weaken (fun _ _ _ _ => trivial), C.2.2.2.2.2.2.2.2.2.1, z_env C.2.2.2.2.2.2.2.2.2.1 C.2.2.2.2.2.2.2.2.2.2 C.2.2.2.2.2.1 hD hS hU hW⟩⟩ rfl hAs hl.1 rfl (lv_room hr) hd ⟨Nat.zero_le _, Nat.zero_le _⟩) C.2.2.2.2.2.1 hD hS hl K
theorem zr_callSN {l : Launch} {d : zD} {F : zF} {ws : va_W} {lv : List (Option Value)} {pc : Nat} {own : String} {cc : ByteArray} {nL fr lo : Nat} {y : MethodName} {cy : ByteArray} {nY fY lY np idx : Nat} {ret : Option FieldType} {host : String} {As rest st0 : List Value} {ws' : va_W} {r : Option Value} (hy : zY y cy nY ret np) (hy2 : Cond.static y ∈ zW) (M : zM l y cy nY ret fY lY d As ws ws' r) (hAs : As.length = np) (hst : As.reverse ++ rest = st0) (pc' : Nat) (C : zOk d F own cc nL fr lo) (hd : decode cc pc = .ok (.invokestatic idx, 3)) (hp : pc + 3 = pc') (hq : ∀ A U, d.2.2.2.2.2 A U → va_Nw (.methodLinkNest own idx y host) U) (hm : fY + 1 ≤ fr ∧ 8 + (nY + 11) + lY ≤ lo) (hr : (rest.map fun v => v.category).sum ≤ 8) (K : V l d F 0 0 ws' lv pc' (r.toList ++ rest)) : V l d F 0 0 ws lv pc st0 := by
  subst hp
  subst hst
  obtain ⟨p, e, R, s, m, args, below, meth, c, Q, A⟩ := F
  intro H locs ls hP hD hS hl
  have hts := C.2.2.2.2.1
  have hK := C.2.2.2.2.2.2.1
  exact z_go (va_runSN (As := As) (rest := rest) (Ts := zW) ⟨C.1, C.2.1, rfl, C.2.2.2.1, hts⟩ (M H.size) ⟨⟨⟨rfl, rfl, Nat.le_trans hm.1 C.2.2.2.2.2.2.2.1, Nat.le_trans hm.2 C.2.2.2.2.2.2.2.2.1, pay_in hts (z_goodIn hy.1), List.mem_cons_self⟩, hts _ hy.1, hts _ hy.2.1, ⟨hy.2.2.1, hy.2.2.2.1⟩, z_len hy.2.2.2.2, va_Nw.use rfl (hq A s C.2.2.2.2.2.2.2.2.2.2)⟩, hts _ hy2, trivial⟩ ⟨z_blind, fun U hU hW => ⟨rfl, by rw [hU], by rw [hU]; exact hP, va_K.moved hW.alike hK, hD.weaken (fun _ _ _ _ => trivial), C.2.2.2.2.2.2.2.2.2.1, z_env C.2.2.2.2.2.2.2.2.2.1 C.2.2.2.2.2.2.2.2.2.2 C.2.2.2.2.2.1 hD hS hU hW⟩⟩ rfl hAs hl.1 rfl (lv_room hr) hd ⟨Nat.zero_le _, Nat.zero_le _⟩) C.2.2.2.2.2.1 hD hS hl K
theorem zr_callVN {l : Launch} {d : zD} {F : zF} {ws : va_W} {lv : List (Option Value)} {pc : Nat} {own : String} {cc : ByteArray} {nL fr lo : Nat} {y : MethodName} {cy : ByteArray} {nY fY lY np idx ci b N : Nat} {ret : Option FieldType} {host : String} {As rest st0 : List Value} {ws' : va_W} {r : Option Value} {Cn : String} {T : u_T} {fs : List Value} (hy : zY y cy nY ret np) (hy2 : Cond.instanceMethod y ∈ zW ∧ Cond.selects Cn y y ∈ zW) (q0 : Nat) (he : ws[q0]? = some (b, .inr (ci, fs))) (hc : classes[ci]? = some (Cn, T, N)) (M : zM l y cy nY ret fY lY d (.ref b :: As) ws ws' r) (hAs : As.length = np) (hst : As.reverse ++ .ref b :: rest = st0) (pc' : Nat) (C : zOk d F own cc nL fr lo) (hd : decode cc pc = .ok (.invokevirtual idx, 3)) (hp : pc + 3 = pc') (hq : ∀ A U, d.2.2.2.2.2 A U → va_Nw (.methodLinkNest own idx y host) U) (hm : fY + 1 ≤ fr ∧ 8 + (nY + 11) + lY ≤ lo) (hr : (rest.map fun v => v.category).sum ≤ 8) (K : V l d F 0 0 ws' lv pc' (r.toList ++ rest)) : V l d F 0 0 ws lv pc st0 := by
  subst hp
  subst hst
  obtain ⟨p, e, R, s, m, args, below, meth, c, Q, A⟩ := F
  intro H locs ls hP hD hS hl
  have hts := C.2.2.2.2.1
  have hK := C.2.2.2.2.2.2.1
  exact z_go (va_runVN (As := As) (rest := rest) (Ts := zW) ⟨C.1, C.2.1, rfl, C.2.2.2.1, hts⟩ (M H.size) ⟨⟨⟨rfl, rfl, Nat.le_trans hm.1 C.2.2.2.2.2.2.2.1, Nat.le_trans hm.2 C.2.2.2.2.2.2.2.2.1, pay_in hts (z_goodIn hy.1), List.mem_cons_self⟩, hts _ hy.1, hts _ hy.2.1, ⟨hy.2.2.1, hy.2.2.2.1⟩, z_len hy.2.2.2.2, va_Nw.use rfl (hq A s C.2.2.2.2.2.2.2.2.2.2)⟩, hts _ hy2.1, hts _ hy2.2⟩ ⟨z_blind, va_recv hK hP hc he, fun U hU hW => ⟨rfl, by rw [hU], by rw [hU]; exact hP, va_K.moved hW.alike hK, hD.weaken (fun _ _ _ _ => trivial), C.2.2.2.2.2.2.2.2.2.1, z_env C.2.2.2.2.2.2.2.2.2.1 C.2.2.2.2.2.2.2.2.2.2 C.2.2.2.2.2.1 hD hS hU hW⟩⟩ rfl hAs hl.1 rfl (lv_room hr) hd ⟨Nat.zero_le _, Nat.zero_le _⟩) C.2.2.2.2.2.1 hD hS hl K
theorem zbd_some {α β : Type} {x : Option (α × zS)} {f : α → zS → Option β} {out : β} (h : zbd x f = some out) : ∃ q, x = some q ∧ f q.1 q.2 = some out := by
  cases x with
  | none => cases h
  | some q => exact ⟨q, rfl, h⟩
end
section
theorem zb2 {a b c d : Nat} (h1 : Nat.ble a b = true) (h2 : Nat.ble c d = true) : a ≤ b ∧ c ≤ d := ⟨Nat.le_of_ble_eq_true h1, Nat.le_of_ble_eq_true h2⟩
theorem zfit {x : Int32} (h : narrow .boolean (.int x) = .int x) : fits .boolean (.int x) = true := by
  have h2 : x &&& 1 = x := by simpa [narrow] using h
  obtain ⟨j, hj, e⟩ := pk_andE x (m := 1) 1 (by decide)
  rw [h2] at e
  rcases (show j = 0 ∨ j = 1 by omega) with rfl | rfl
  · rw [e]; decide
  · rw [e]; decide
theorem zbo_some {β : Type} {y : Int32} {x : Option β} {out : β} (h : zbo y x = some out) : narrow .boolean (.int y) = .int y ∧ x = some out := by
  unfold zbo at h
  split at h
  · rename_i h1
    refine ⟨?_, h⟩
    unfold vp_nar at h1
    cases hn : narrow .boolean (.int y) with
    | int z => rw [hn] at h1; simp only at h1; rw [h1]
    | _ => simp [narrow] at hn
  · cases h
theorem q_37 : Cond.selects RX11 yX11_isHouse yX11_isHouse ∈ zW := z_w 37 (by decide +kernel) (by decide +kernel)
theorem q_90 : Cond.initialized RX11 ∈ zW := z_w 90 (by decide +kernel) (by decide +kernel)
theorem q_991 : Cond.fieldLink RX11 143 RX11 "houses" "I" ∈ zW := z_w 991 (by decide +kernel) (by decide +kernel)
theorem q_992 : Cond.fieldLink RX11 7 RX11 "place" "[I" ∈ zW := z_w 992 (by decide +kernel) (by decide +kernel)
theorem q_993 : Cond.fieldLink RX11 13 RX11 "isHut" "[I" ∈ zW := z_w 993 (by decide +kernel) (by decide +kernel)
theorem q_1175 : Cond.instanceMethod yX11_house ∈ zW := z_w 1175 (by decide +kernel) (by decide +kernel)
theorem q_1176 : Cond.selects RX11 yX11_house yX11_house ∈ zW := z_w 1176 (by decide +kernel) (by decide +kernel)
theorem q_1177 : Cond.code yX11_house cX11_house 3 (some .int) ∈ zW := z_w 1177 (by decide +kernel) (by decide +kernel)
theorem q_1178 : Cond.methodLink RX11 150 yX11_isPlace ∈ zW := z_w 1178 (by decide +kernel) (by decide +kernel)
theorem q_1179 : Cond.static yX11_isPlace ∈ zW := z_w 1179 (by decide +kernel) (by decide +kernel)
theorem q_1180 : Cond.code yX11_isPlace cX11_isPlace 1 (some .boolean) ∈ zW := z_w 1180 (by decide +kernel) (by decide +kernel)
theorem q_1181 : Cond.methodLink RX11 139 yX11_in ∈ zW := z_w 1181 (by decide +kernel) (by decide +kernel)
theorem q_1182 : Cond.static yX11_in ∈ zW := z_w 1182 (by decide +kernel) (by decide +kernel)
theorem q_1183 : Cond.code yX11_in cX11_in 3 (some .boolean) ∈ zW := z_w 1183 (by decide +kernel) (by decide +kernel)
theorem q_1185 : Cond.instanceMethod yX11_hut ∈ zW := z_w 1185 (by decide +kernel) (by decide +kernel)
theorem q_1186 : Cond.selects RX11 yX11_hut yX11_hut ∈ zW := z_w 1186 (by decide +kernel) (by decide +kernel)
theorem q_1187 : Cond.code yX11_hut cX11_hut 4 (some .int) ∈ zW := z_w 1187 (by decide +kernel) (by decide +kernel)
theorem q_1188 : Cond.methodLink RX11 154 yX11_isHouse ∈ zW := z_w 1188 (by decide +kernel) (by decide +kernel)
theorem q_1190 : Cond.instanceMethod yX11_isHouse ∈ zW := z_w 1190 (by decide +kernel) (by decide +kernel)
theorem q_1191 : Cond.code yX11_isHouse cX11_isHouse 2 (some .boolean) ∈ zW := z_w 1191 (by decide +kernel) (by decide +kernel)
theorem q_1258 : Cond.static yX11_apart ∈ zW := z_w 1258 (by decide +kernel) (by decide +kernel)
theorem q_1259 : Cond.code yX11_apart cX11_apart 2 (some .int) ∈ zW := z_w 1259 (by decide +kernel) (by decide +kernel)
theorem q_1260 : Cond.methodLink RX11 146 yX11_abs ∈ zW := z_w 1260 (by decide +kernel) (by decide +kernel)
theorem q_1261 : Cond.static yX11_abs ∈ zW := z_w 1261 (by decide +kernel) (by decide +kernel)
theorem q_1262 : Cond.code yX11_abs cX11_abs 1 (some .int) ∈ zW := z_w 1262 (by decide +kernel) (by decide +kernel)
end
section
def zWords : Nat → Int64 := fun k => ([1852137842, 6709618, 418497262196, 1936286821, 1752527987, 114827921155443, 1819238758, 32195308547892595, 28530, 6385252, 7237492] : List Int64).getD k 0
theorem inX11 : ∀ w ∈ u_ws RX11 TX11 60, w ∈ zW := z_sub _ [1051, 1053, 1055, 1057, 1059, 1061, 1063, 1065, 1067, 1069, 1071, 1073, 1075, 1077, 1079, 1081, 1083, 1085, 1087, 1089, 1091, 1093, 1095, 1097, 1099, 1101, 1103, 1105, 1107, 1109, 1111, 1113, 1115, 1117, 1119, 1121, 1123, 1125, 1127, 1129, 1131, 1133, 1135, 1137, 1139, 1141, 1143, 1145, 1147, 1149, 1151, 1153, 1155, 1157, 1159, 1161, 1163, 1165, 1167, 1169] (by decide +kernel) (by decide +kernel)
def MW (d : zD) (h : Nat → Nat) (σ : zS) : va_W := [(h 0, .inr (11, [.int (σ.1 0), .ref (h 1), .ref (h 2), .int (σ.1 3), .ref (h 3), .ref (h 4), .ref (h 5), .int (σ.1 7), .int (σ.1 8), .ref (h 6), .ref (h 7), .ref (h 8), .ref (h 9), .ref (h 10), .int (σ.1 14), .ref (h 11), .ref (h 12), .int (σ.1 17), .ref (h 13), .ref (h 14), .int (σ.1 20), .ref (h 15), .ref (h 16), .int (σ.1 23), .int (σ.1 24), .int (σ.1 25), .int (σ.1 26), .int (σ.1 27), .int (σ.1 28), .int (σ.1 29), .ref (h 17), .ref (h 18), .ref (h 19), .ref (h 20), .ref (h 21), .int (σ.1 35), .int (σ.1 36), .int (σ.1 37), .int (σ.1 38), .ref (h 22), .ref (h 23), .int (σ.1 41), .int (σ.1 42), .int (σ.1 43), .ref (h 24), .ref (h 25), .int (σ.1 46), .int (σ.1 47), .int (σ.1 48), .int (σ.1 49), .int (σ.1 50), .int (σ.1 51), .ref (h 26), .ref (h 27), .ref (h 28), .ref (h 29), .ref (h 30), .int (σ.1 57), .int (σ.1 58), .ref (h 31)])), (h 1, .inl (d.2.1, 20, .inl (σ.2 1))), (h 2, .inl (d.2.1, 20, .inl (σ.2 2))), (h 3, .inl (d.2.1, 12, .inl (σ.2 3))), (h 4, .inl (d.2.1, 12, .inl (σ.2 4))), (h 5, .inl (d.2.1, 12, .inl (σ.2 5))), (h 6, .inl (d.2.1, 6, .inl (σ.2 6))), (h 7, .inl (d.2.1, 6, .inl (σ.2 7))), (h 8, .inl (d.2.1, 6, .inl (σ.2 8))), (h 9, .inl (d.2.1, 6, .inl (σ.2 9))), (h 10, .inl (d.2.1, 6, .inl (σ.2 10))), (h 11, .inl (d.2.1, 8, .inl (σ.2 11))), (h 12, .inl (d.2.1, 8, .inl (σ.2 12))), (h 13, .inl (d.2.1, 10, .inl (σ.2 13))), (h 14, .inl (d.2.1, 160, .inl (σ.2 14))), (h 15, .inl (d.2.1, 1200, .inl (σ.2 15))), (h 16, .inl (d.2.1, 24, .inl (σ.2 16))), (h 17, .inl (d.2.1, 20, .inl (σ.2 17))), (h 18, .inl (d.2.1, 8, .inl (σ.2 18))), (h 19, .inl (d.2.1, 4, .inl (σ.2 19))), (h 20, .inl (d.2.1, 4, .inl (σ.2 20))), (h 21, .inl (d.2.1, 160, .inl (σ.2 21))), (h 22, .inl (d.2.2.2.1, 11, .inr (.inl zWords))), (h 23, .inl (d.2.1, 200, .inl (σ.2 23))), (h 24, .inl (d.2.1, 200, .inl (σ.2 24))), (h 25, .inl (d.2.1, 6, .inl (σ.2 25))), (h 26, .inl (d.2.2.1, 1600, .inl (σ.2 26))), (h 27, .inl (d.2.2.1, 1600, .inl (σ.2 27))), (h 28, .inl (d.2.1, 1600, .inl (σ.2 28))), (h 29, .inl (d.2.1, 1600, .inl (σ.2 29))), (h 30, .inl (d.2.2.1, 1600, .inl (σ.2 30))), (h 31, .inl (d.2.1, 1600, .inl (σ.2 31)))]
theorem mg_0_0 {l : Launch} {d : zD} {F : zF} {k n : Nat} {lv : List (Option Value)} {pc : Nat} {st : List Value} {own : String} {cc : ByteArray} {nL fr lo : Nat} {h : Nat → Nat} {σ : zS} {idx : Nat} (pc' : Nat) (C : zOk d F own cc nL fr lo) (hd : decode cc pc = .ok (.getfield idx, 3)) (hp : pc + 3 = pc') (hq : Cond.fieldLink own idx RX11 "houses" "I" ∈ zW) (K : V l d F k n (MW d h σ) lv pc' (.int (σ.1 0) :: st)) : V l d F k n (MW d h σ) lv pc (.ref (h 0) :: st) := zr_get 0 inX11 rfl rfl 0 (by decide) rfl rfl hq pc' C hd hp K
theorem mp_0_0 {l : Launch} {d : zD} {F : zF} {k n : Nat} {lv : List (Option Value)} {pc : Nat} {st : List Value} {own : String} {cc : ByteArray} {nL fr lo : Nat} {h : Nat → Nat} {σ : zS} {idx : Nat} {x : Int32} {β : Type} {f : zS → Option β} {out : β} (pc' : Nat) (C : zOk d F own cc nL fr lo) (hd : decode cc pc = .ok (.putfield idx, 3)) (hp : pc + 3 = pc') (hq : Cond.fieldLink own idx RX11 "houses" "I" ∈ zW) (hf : zlt (zsg σ 0 x) f = some out) (K : ∀ σ', f σ' = some out → V l d F k n (MW d h σ') lv pc' st) : V l d F k n (MW d h σ) lv pc (.int x :: .ref (h 0) :: st) := zr_put 0 inX11 tyX11 tyX11_ok nmX11 rfl rfl 0 (by decide) rfl rfl rfl rfl rfl (Nat.le_of_ble_eq_true rfl) hq rfl pc' C hd hp (K (zsg σ 0 x) hf)
theorem mg_0_1 {l : Launch} {d : zD} {F : zF} {k n : Nat} {lv : List (Option Value)} {pc : Nat} {st : List Value} {own : String} {cc : ByteArray} {nL fr lo : Nat} {h : Nat → Nat} {σ : zS} {idx : Nat} (pc' : Nat) (C : zOk d F own cc nL fr lo) (hd : decode cc pc = .ok (.getfield idx, 3)) (hp : pc + 3 = pc') (hq : Cond.fieldLink own idx RX11 "place" "[I" ∈ zW) (K : V l d F k n (MW d h σ) lv pc' (.ref (h 1) :: st)) : V l d F k n (MW d h σ) lv pc (.ref (h 0) :: st) := zr_get 0 inX11 rfl rfl 1 (by decide) rfl rfl hq pc' C hd hp K
theorem mg_0_2 {l : Launch} {d : zD} {F : zF} {k n : Nat} {lv : List (Option Value)} {pc : Nat} {st : List Value} {own : String} {cc : ByteArray} {nL fr lo : Nat} {h : Nat → Nat} {σ : zS} {idx : Nat} (pc' : Nat) (C : zOk d F own cc nL fr lo) (hd : decode cc pc = .ok (.getfield idx, 3)) (hp : pc + 3 = pc') (hq : Cond.fieldLink own idx RX11 "isHut" "[I" ∈ zW) (K : V l d F k n (MW d h σ) lv pc' (.ref (h 2) :: st)) : V l d F k n (MW d h σ) lv pc (.ref (h 0) :: st) := zr_get 0 inX11 rfl rfl 2 (by decide) rfl rfl hq pc' C hd hp K
theorem mg_0_3 {l : Launch} {d : zD} {F : zF} {k n : Nat} {lv : List (Option Value)} {pc : Nat} {st : List Value} {own : String} {cc : ByteArray} {nL fr lo : Nat} {h : Nat → Nat} {σ : zS} {idx : Nat} (pc' : Nat) (C : zOk d F own cc nL fr lo) (hd : decode cc pc = .ok (.getfield idx, 3)) (hp : pc + 3 = pc') (hq : Cond.fieldLink own idx RX11 "shapes" "I" ∈ zW) (K : V l d F k n (MW d h σ) lv pc' (.int (σ.1 3) :: st)) : V l d F k n (MW d h σ) lv pc (.ref (h 0) :: st) := zr_get 0 inX11 rfl rfl 3 (by decide) rfl rfl hq pc' C hd hp K
theorem mp_0_3 {l : Launch} {d : zD} {F : zF} {k n : Nat} {lv : List (Option Value)} {pc : Nat} {st : List Value} {own : String} {cc : ByteArray} {nL fr lo : Nat} {h : Nat → Nat} {σ : zS} {idx : Nat} {x : Int32} {β : Type} {f : zS → Option β} {out : β} (pc' : Nat) (C : zOk d F own cc nL fr lo) (hd : decode cc pc = .ok (.putfield idx, 3)) (hp : pc + 3 = pc') (hq : Cond.fieldLink own idx RX11 "shapes" "I" ∈ zW) (hf : zlt (zsg σ 3 x) f = some out) (K : ∀ σ', f σ' = some out → V l d F k n (MW d h σ') lv pc' st) : V l d F k n (MW d h σ) lv pc (.int x :: .ref (h 0) :: st) := zr_put 0 inX11 tyX11 tyX11_ok nmX11 rfl rfl 3 (by decide) rfl rfl rfl rfl rfl (Nat.le_of_ble_eq_true rfl) hq rfl pc' C hd hp (K (zsg σ 3 x) hf)
theorem mg_0_4 {l : Launch} {d : zD} {F : zF} {k n : Nat} {lv : List (Option Value)} {pc : Nat} {st : List Value} {own : String} {cc : ByteArray} {nL fr lo : Nat} {h : Nat → Nat} {σ : zS} {idx : Nat} (pc' : Nat) (C : zOk d F own cc nL fr lo) (hd : decode cc pc = .ok (.getfield idx, 3)) (hp : pc + 3 = pc') (hq : Cond.fieldLink own idx RX11 "kind" "[I" ∈ zW) (K : V l d F k n (MW d h σ) lv pc' (.ref (h 3) :: st)) : V l d F k n (MW d h σ) lv pc (.ref (h 0) :: st) := zr_get 0 inX11 rfl rfl 4 (by decide) rfl rfl hq pc' C hd hp K
theorem mg_0_5 {l : Launch} {d : zD} {F : zF} {k n : Nat} {lv : List (Option Value)} {pc : Nat} {st : List Value} {own : String} {cc : ByteArray} {nL fr lo : Nat} {h : Nat → Nat} {σ : zS} {idx : Nat} (pc' : Nat) (C : zOk d F own cc nL fr lo) (hd : decode cc pc = .ok (.getfield idx, 3)) (hp : pc + 3 = pc') (hq : Cond.fieldLink own idx RX11 "houseOf" "[I" ∈ zW) (K : V l d F k n (MW d h σ) lv pc' (.ref (h 4) :: st)) : V l d F k n (MW d h σ) lv pc (.ref (h 0) :: st) := zr_get 0 inX11 rfl rfl 5 (by decide) rfl rfl hq pc' C hd hp K
theorem mg_0_6 {l : Launch} {d : zD} {F : zF} {k n : Nat} {lv : List (Option Value)} {pc : Nat} {st : List Value} {own : String} {cc : ByteArray} {nL fr lo : Nat} {h : Nat → Nat} {σ : zS} {idx : Nat} (pc' : Nat) (C : zOk d F own cc nL fr lo) (hd : decode cc pc = .ok (.getfield idx, 3)) (hp : pc + 3 = pc') (hq : Cond.fieldLink own idx RX11 "more" "[I" ∈ zW) (K : V l d F k n (MW d h σ) lv pc' (.ref (h 5) :: st)) : V l d F k n (MW d h σ) lv pc (.ref (h 0) :: st) := zr_get 0 inX11 rfl rfl 6 (by decide) rfl rfl hq pc' C hd hp K
theorem mg_0_7 {l : Launch} {d : zD} {F : zF} {k n : Nat} {lv : List (Option Value)} {pc : Nat} {st : List Value} {own : String} {cc : ByteArray} {nL fr lo : Nat} {h : Nat → Nat} {σ : zS} {idx : Nat} (pc' : Nat) (C : zOk d F own cc nL fr lo) (hd : decode cc pc = .ok (.getfield idx, 3)) (hp : pc + 3 = pc') (hq : Cond.fieldLink own idx RX11 "loaf" "I" ∈ zW) (K : V l d F k n (MW d h σ) lv pc' (.int (σ.1 7) :: st)) : V l d F k n (MW d h σ) lv pc (.ref (h 0) :: st) := zr_get 0 inX11 rfl rfl 7 (by decide) rfl rfl hq pc' C hd hp K
theorem mp_0_7 {l : Launch} {d : zD} {F : zF} {k n : Nat} {lv : List (Option Value)} {pc : Nat} {st : List Value} {own : String} {cc : ByteArray} {nL fr lo : Nat} {h : Nat → Nat} {σ : zS} {idx : Nat} {x : Int32} {β : Type} {f : zS → Option β} {out : β} (pc' : Nat) (C : zOk d F own cc nL fr lo) (hd : decode cc pc = .ok (.putfield idx, 3)) (hp : pc + 3 = pc') (hq : Cond.fieldLink own idx RX11 "loaf" "I" ∈ zW) (hf : zlt (zsg σ 7 x) f = some out) (K : ∀ σ', f σ' = some out → V l d F k n (MW d h σ') lv pc' st) : V l d F k n (MW d h σ) lv pc (.int x :: .ref (h 0) :: st) := zr_put 0 inX11 tyX11 tyX11_ok nmX11 rfl rfl 7 (by decide) rfl rfl rfl rfl rfl (Nat.le_of_ble_eq_true rfl) hq rfl pc' C hd hp (K (zsg σ 7 x) hf)
theorem mg_0_8 {l : Launch} {d : zD} {F : zF} {k n : Nat} {lv : List (Option Value)} {pc : Nat} {st : List Value} {own : String} {cc : ByteArray} {nL fr lo : Nat} {h : Nat → Nat} {σ : zS} {idx : Nat} (pc' : Nat) (C : zOk d F own cc nL fr lo) (hd : decode cc pc = .ok (.getfield idx, 3)) (hp : pc + 3 = pc') (hq : Cond.fieldLink own idx RX11 "ravines" "I" ∈ zW) (K : V l d F k n (MW d h σ) lv pc' (.int (σ.1 8) :: st)) : V l d F k n (MW d h σ) lv pc (.ref (h 0) :: st) := zr_get 0 inX11 rfl rfl 8 (by decide) rfl rfl hq pc' C hd hp K
theorem mp_0_8 {l : Launch} {d : zD} {F : zF} {k n : Nat} {lv : List (Option Value)} {pc : Nat} {st : List Value} {own : String} {cc : ByteArray} {nL fr lo : Nat} {h : Nat → Nat} {σ : zS} {idx : Nat} {x : Int32} {β : Type} {f : zS → Option β} {out : β} (pc' : Nat) (C : zOk d F own cc nL fr lo) (hd : decode cc pc = .ok (.putfield idx, 3)) (hp : pc + 3 = pc') (hq : Cond.fieldLink own idx RX11 "ravines" "I" ∈ zW) (hf : zlt (zsg σ 8 x) f = some out) (K : ∀ σ', f σ' = some out → V l d F k n (MW d h σ') lv pc' st) : V l d F k n (MW d h σ) lv pc (.int x :: .ref (h 0) :: st) := zr_put 0 inX11 tyX11 tyX11_ok nmX11 rfl rfl 8 (by decide) rfl rfl rfl rfl rfl (Nat.le_of_ble_eq_true rfl) hq rfl pc' C hd hp (K (zsg σ 8 x) hf)
theorem mg_0_9 {l : Launch} {d : zD} {F : zF} {k n : Nat} {lv : List (Option Value)} {pc : Nat} {st : List Value} {own : String} {cc : ByteArray} {nL fr lo : Nat} {h : Nat → Nat} {σ : zS} {idx : Nat} (pc' : Nat) (C : zOk d F own cc nL fr lo) (hd : decode cc pc = .ok (.getfield idx, 3)) (hp : pc + 3 = pc') (hq : Cond.fieldLink own idx RX11 "ravineWay" "[I" ∈ zW) (K : V l d F k n (MW d h σ) lv pc' (.ref (h 6) :: st)) : V l d F k n (MW d h σ) lv pc (.ref (h 0) :: st) := zr_get 0 inX11 rfl rfl 9 (by decide) rfl rfl hq pc' C hd hp K
theorem mg_0_10 {l : Launch} {d : zD} {F : zF} {k n : Nat} {lv : List (Option Value)} {pc : Nat} {st : List Value} {own : String} {cc : ByteArray} {nL fr lo : Nat} {h : Nat → Nat} {σ : zS} {idx : Nat} (pc' : Nat) (C : zOk d F own cc nL fr lo) (hd : decode cc pc = .ok (.getfield idx, 3)) (hp : pc + 3 = pc') (hq : Cond.fieldLink own idx RX11 "ravineAt" "[I" ∈ zW) (K : V l d F k n (MW d h σ) lv pc' (.ref (h 7) :: st)) : V l d F k n (MW d h σ) lv pc (.ref (h 0) :: st) := zr_get 0 inX11 rfl rfl 10 (by decide) rfl rfl hq pc' C hd hp K
theorem mg_0_11 {l : Launch} {d : zD} {F : zF} {k n : Nat} {lv : List (Option Value)} {pc : Nat} {st : List Value} {own : String} {cc : ByteArray} {nL fr lo : Nat} {h : Nat → Nat} {σ : zS} {idx : Nat} (pc' : Nat) (C : zOk d F own cc nL fr lo) (hd : decode cc pc = .ok (.getfield idx, 3)) (hp : pc + 3 = pc') (hq : Cond.fieldLink own idx RX11 "ravineFrom" "[I" ∈ zW) (K : V l d F k n (MW d h σ) lv pc' (.ref (h 8) :: st)) : V l d F k n (MW d h σ) lv pc (.ref (h 0) :: st) := zr_get 0 inX11 rfl rfl 11 (by decide) rfl rfl hq pc' C hd hp K
theorem mg_0_12 {l : Launch} {d : zD} {F : zF} {k n : Nat} {lv : List (Option Value)} {pc : Nat} {st : List Value} {own : String} {cc : ByteArray} {nL fr lo : Nat} {h : Nat → Nat} {σ : zS} {idx : Nat} (pc' : Nat) (C : zOk d F own cc nL fr lo) (hd : decode cc pc = .ok (.getfield idx, 3)) (hp : pc + 3 = pc') (hq : Cond.fieldLink own idx RX11 "ravineTo" "[I" ∈ zW) (K : V l d F k n (MW d h σ) lv pc' (.ref (h 9) :: st)) : V l d F k n (MW d h σ) lv pc (.ref (h 0) :: st) := zr_get 0 inX11 rfl rfl 12 (by decide) rfl rfl hq pc' C hd hp K
theorem mg_0_13 {l : Launch} {d : zD} {F : zF} {k n : Nat} {lv : List (Option Value)} {pc : Nat} {st : List Value} {own : String} {cc : ByteArray} {nL fr lo : Nat} {h : Nat → Nat} {σ : zS} {idx : Nat} (pc' : Nat) (C : zOk d F own cc nL fr lo) (hd : decode cc pc = .ok (.getfield idx, 3)) (hp : pc + 3 = pc') (hq : Cond.fieldLink own idx RX11 "ravineWide" "[I" ∈ zW) (K : V l d F k n (MW d h σ) lv pc' (.ref (h 10) :: st)) : V l d F k n (MW d h σ) lv pc (.ref (h 0) :: st) := zr_get 0 inX11 rfl rfl 13 (by decide) rfl rfl hq pc' C hd hp K
theorem mg_0_14 {l : Launch} {d : zD} {F : zF} {k n : Nat} {lv : List (Option Value)} {pc : Nat} {st : List Value} {own : String} {cc : ByteArray} {nL fr lo : Nat} {h : Nat → Nat} {σ : zS} {idx : Nat} (pc' : Nat) (C : zOk d F own cc nL fr lo) (hd : decode cc pc = .ok (.getfield idx, 3)) (hp : pc + 3 = pc') (hq : Cond.fieldLink own idx RX11 "people" "I" ∈ zW) (K : V l d F k n (MW d h σ) lv pc' (.int (σ.1 14) :: st)) : V l d F k n (MW d h σ) lv pc (.ref (h 0) :: st) := zr_get 0 inX11 rfl rfl 14 (by decide) rfl rfl hq pc' C hd hp K
theorem mp_0_14 {l : Launch} {d : zD} {F : zF} {k n : Nat} {lv : List (Option Value)} {pc : Nat} {st : List Value} {own : String} {cc : ByteArray} {nL fr lo : Nat} {h : Nat → Nat} {σ : zS} {idx : Nat} {x : Int32} {β : Type} {f : zS → Option β} {out : β} (pc' : Nat) (C : zOk d F own cc nL fr lo) (hd : decode cc pc = .ok (.putfield idx, 3)) (hp : pc + 3 = pc') (hq : Cond.fieldLink own idx RX11 "people" "I" ∈ zW) (hf : zlt (zsg σ 14 x) f = some out) (K : ∀ σ', f σ' = some out → V l d F k n (MW d h σ') lv pc' st) : V l d F k n (MW d h σ) lv pc (.int x :: .ref (h 0) :: st) := zr_put 0 inX11 tyX11 tyX11_ok nmX11 rfl rfl 14 (by decide) rfl rfl rfl rfl rfl (Nat.le_of_ble_eq_true rfl) hq rfl pc' C hd hp (K (zsg σ 14 x) hf)
theorem mg_0_15 {l : Launch} {d : zD} {F : zF} {k n : Nat} {lv : List (Option Value)} {pc : Nat} {st : List Value} {own : String} {cc : ByteArray} {nL fr lo : Nat} {h : Nat → Nat} {σ : zS} {idx : Nat} (pc' : Nat) (C : zOk d F own cc nL fr lo) (hd : decode cc pc = .ok (.getfield idx, 3)) (hp : pc + 3 = pc') (hq : Cond.fieldLink own idx RX11 "personAt" "[I" ∈ zW) (K : V l d F k n (MW d h σ) lv pc' (.ref (h 11) :: st)) : V l d F k n (MW d h σ) lv pc (.ref (h 0) :: st) := zr_get 0 inX11 rfl rfl 15 (by decide) rfl rfl hq pc' C hd hp K
theorem mg_0_16 {l : Launch} {d : zD} {F : zF} {k n : Nat} {lv : List (Option Value)} {pc : Nat} {st : List Value} {own : String} {cc : ByteArray} {nL fr lo : Nat} {h : Nat → Nat} {σ : zS} {idx : Nat} (pc' : Nat) (C : zOk d F own cc nL fr lo) (hd : decode cc pc = .ok (.getfield idx, 3)) (hp : pc + 3 = pc') (hq : Cond.fieldLink own idx RX11 "bound" "[I" ∈ zW) (K : V l d F k n (MW d h σ) lv pc' (.ref (h 12) :: st)) : V l d F k n (MW d h σ) lv pc (.ref (h 0) :: st) := zr_get 0 inX11 rfl rfl 16 (by decide) rfl rfl hq pc' C hd hp K
theorem mg_0_17 {l : Launch} {d : zD} {F : zF} {k n : Nat} {lv : List (Option Value)} {pc : Nat} {st : List Value} {own : String} {cc : ByteArray} {nL fr lo : Nat} {h : Nat → Nat} {σ : zS} {idx : Nat} (pc' : Nat) (C : zOk d F own cc nL fr lo) (hd : decode cc pc = .ok (.getfield idx, 3)) (hp : pc + 3 = pc') (hq : Cond.fieldLink own idx RX11 "wells" "I" ∈ zW) (K : V l d F k n (MW d h σ) lv pc' (.int (σ.1 17) :: st)) : V l d F k n (MW d h σ) lv pc (.ref (h 0) :: st) := zr_get 0 inX11 rfl rfl 17 (by decide) rfl rfl hq pc' C hd hp K
theorem mp_0_17 {l : Launch} {d : zD} {F : zF} {k n : Nat} {lv : List (Option Value)} {pc : Nat} {st : List Value} {own : String} {cc : ByteArray} {nL fr lo : Nat} {h : Nat → Nat} {σ : zS} {idx : Nat} {x : Int32} {β : Type} {f : zS → Option β} {out : β} (pc' : Nat) (C : zOk d F own cc nL fr lo) (hd : decode cc pc = .ok (.putfield idx, 3)) (hp : pc + 3 = pc') (hq : Cond.fieldLink own idx RX11 "wells" "I" ∈ zW) (hf : zlt (zsg σ 17 x) f = some out) (K : ∀ σ', f σ' = some out → V l d F k n (MW d h σ') lv pc' st) : V l d F k n (MW d h σ) lv pc (.int x :: .ref (h 0) :: st) := zr_put 0 inX11 tyX11 tyX11_ok nmX11 rfl rfl 17 (by decide) rfl rfl rfl rfl rfl (Nat.le_of_ble_eq_true rfl) hq rfl pc' C hd hp (K (zsg σ 17 x) hf)
theorem mg_0_18 {l : Launch} {d : zD} {F : zF} {k n : Nat} {lv : List (Option Value)} {pc : Nat} {st : List Value} {own : String} {cc : ByteArray} {nL fr lo : Nat} {h : Nat → Nat} {σ : zS} {idx : Nat} (pc' : Nat) (C : zOk d F own cc nL fr lo) (hd : decode cc pc = .ok (.getfield idx, 3)) (hp : pc + 3 = pc') (hq : Cond.fieldLink own idx RX11 "wellAt" "[I" ∈ zW) (K : V l d F k n (MW d h σ) lv pc' (.ref (h 13) :: st)) : V l d F k n (MW d h σ) lv pc (.ref (h 0) :: st) := zr_get 0 inX11 rfl rfl 18 (by decide) rfl rfl hq pc' C hd hp K
theorem mg_0_19 {l : Launch} {d : zD} {F : zF} {k n : Nat} {lv : List (Option Value)} {pc : Nat} {st : List Value} {own : String} {cc : ByteArray} {nL fr lo : Nat} {h : Nat → Nat} {σ : zS} {idx : Nat} (pc' : Nat) (C : zOk d F own cc nL fr lo) (hd : decode cc pc = .ok (.getfield idx, 3)) (hp : pc + 3 = pc') (hq : Cond.fieldLink own idx RX11 "tape" "[I" ∈ zW) (K : V l d F k n (MW d h σ) lv pc' (.ref (h 14) :: st)) : V l d F k n (MW d h σ) lv pc (.ref (h 0) :: st) := zr_get 0 inX11 rfl rfl 19 (by decide) rfl rfl hq pc' C hd hp K
theorem mg_0_20 {l : Launch} {d : zD} {F : zF} {k n : Nat} {lv : List (Option Value)} {pc : Nat} {st : List Value} {own : String} {cc : ByteArray} {nL fr lo : Nat} {h : Nat → Nat} {σ : zS} {idx : Nat} (pc' : Nat) (C : zOk d F own cc nL fr lo) (hd : decode cc pc = .ok (.getfield idx, 3)) (hp : pc + 3 = pc') (hq : Cond.fieldLink own idx RX11 "taped" "I" ∈ zW) (K : V l d F k n (MW d h σ) lv pc' (.int (σ.1 20) :: st)) : V l d F k n (MW d h σ) lv pc (.ref (h 0) :: st) := zr_get 0 inX11 rfl rfl 20 (by decide) rfl rfl hq pc' C hd hp K
theorem mp_0_20 {l : Launch} {d : zD} {F : zF} {k n : Nat} {lv : List (Option Value)} {pc : Nat} {st : List Value} {own : String} {cc : ByteArray} {nL fr lo : Nat} {h : Nat → Nat} {σ : zS} {idx : Nat} {x : Int32} {β : Type} {f : zS → Option β} {out : β} (pc' : Nat) (C : zOk d F own cc nL fr lo) (hd : decode cc pc = .ok (.putfield idx, 3)) (hp : pc + 3 = pc') (hq : Cond.fieldLink own idx RX11 "taped" "I" ∈ zW) (hf : zlt (zsg σ 20 x) f = some out) (K : ∀ σ', f σ' = some out → V l d F k n (MW d h σ') lv pc' st) : V l d F k n (MW d h σ) lv pc (.int x :: .ref (h 0) :: st) := zr_put 0 inX11 tyX11 tyX11_ok nmX11 rfl rfl 20 (by decide) rfl rfl rfl rfl rfl (Nat.le_of_ble_eq_true rfl) hq rfl pc' C hd hp (K (zsg σ 20 x) hf)
theorem mg_0_21 {l : Launch} {d : zD} {F : zF} {k n : Nat} {lv : List (Option Value)} {pc : Nat} {st : List Value} {own : String} {cc : ByteArray} {nL fr lo : Nat} {h : Nat → Nat} {σ : zS} {idx : Nat} (pc' : Nat) (C : zOk d F own cc nL fr lo) (hd : decode cc pc = .ok (.getfield idx, 3)) (hp : pc + 3 = pc') (hq : Cond.fieldLink own idx RX11 "codes" "[I" ∈ zW) (K : V l d F k n (MW d h σ) lv pc' (.ref (h 15) :: st)) : V l d F k n (MW d h σ) lv pc (.ref (h 0) :: st) := zr_get 0 inX11 rfl rfl 21 (by decide) rfl rfl hq pc' C hd hp K
theorem mg_0_22 {l : Launch} {d : zD} {F : zF} {k n : Nat} {lv : List (Option Value)} {pc : Nat} {st : List Value} {own : String} {cc : ByteArray} {nL fr lo : Nat} {h : Nat → Nat} {σ : zS} {idx : Nat} (pc' : Nat) (C : zOk d F own cc nL fr lo) (hd : decode cc pc = .ok (.getfield idx, 3)) (hp : pc + 3 = pc') (hq : Cond.fieldLink own idx RX11 "starts" "[I" ∈ zW) (K : V l d F k n (MW d h σ) lv pc' (.ref (h 16) :: st)) : V l d F k n (MW d h σ) lv pc (.ref (h 0) :: st) := zr_get 0 inX11 rfl rfl 22 (by decide) rfl rfl hq pc' C hd hp K
theorem mg_0_23 {l : Launch} {d : zD} {F : zF} {k n : Nat} {lv : List (Option Value)} {pc : Nat} {st : List Value} {own : String} {cc : ByteArray} {nL fr lo : Nat} {h : Nat → Nat} {σ : zS} {idx : Nat} (pc' : Nat) (C : zOk d F own cc nL fr lo) (hd : decode cc pc = .ok (.getfield idx, 3)) (hp : pc + 3 = pc') (hq : Cond.fieldLink own idx RX11 "texts" "I" ∈ zW) (K : V l d F k n (MW d h σ) lv pc' (.int (σ.1 23) :: st)) : V l d F k n (MW d h σ) lv pc (.ref (h 0) :: st) := zr_get 0 inX11 rfl rfl 23 (by decide) rfl rfl hq pc' C hd hp K
theorem mp_0_23 {l : Launch} {d : zD} {F : zF} {k n : Nat} {lv : List (Option Value)} {pc : Nat} {st : List Value} {own : String} {cc : ByteArray} {nL fr lo : Nat} {h : Nat → Nat} {σ : zS} {idx : Nat} {x : Int32} {β : Type} {f : zS → Option β} {out : β} (pc' : Nat) (C : zOk d F own cc nL fr lo) (hd : decode cc pc = .ok (.putfield idx, 3)) (hp : pc + 3 = pc') (hq : Cond.fieldLink own idx RX11 "texts" "I" ∈ zW) (hf : zlt (zsg σ 23 x) f = some out) (K : ∀ σ', f σ' = some out → V l d F k n (MW d h σ') lv pc' st) : V l d F k n (MW d h σ) lv pc (.int x :: .ref (h 0) :: st) := zr_put 0 inX11 tyX11 tyX11_ok nmX11 rfl rfl 23 (by decide) rfl rfl rfl rfl rfl (Nat.le_of_ble_eq_true rfl) hq rfl pc' C hd hp (K (zsg σ 23 x) hf)
theorem mg_0_24 {l : Launch} {d : zD} {F : zF} {k n : Nat} {lv : List (Option Value)} {pc : Nat} {st : List Value} {own : String} {cc : ByteArray} {nL fr lo : Nat} {h : Nat → Nat} {σ : zS} {idx : Nat} (pc' : Nat) (C : zOk d F own cc nL fr lo) (hd : decode cc pc = .ok (.getfield idx, 3)) (hp : pc + 3 = pc') (hq : Cond.fieldLink own idx RX11 "rule" "I" ∈ zW) (K : V l d F k n (MW d h σ) lv pc' (.int (σ.1 24) :: st)) : V l d F k n (MW d h σ) lv pc (.ref (h 0) :: st) := zr_get 0 inX11 rfl rfl 24 (by decide) rfl rfl hq pc' C hd hp K
theorem mp_0_24 {l : Launch} {d : zD} {F : zF} {k n : Nat} {lv : List (Option Value)} {pc : Nat} {st : List Value} {own : String} {cc : ByteArray} {nL fr lo : Nat} {h : Nat → Nat} {σ : zS} {idx : Nat} {x : Int32} {β : Type} {f : zS → Option β} {out : β} (pc' : Nat) (C : zOk d F own cc nL fr lo) (hd : decode cc pc = .ok (.putfield idx, 3)) (hp : pc + 3 = pc') (hq : Cond.fieldLink own idx RX11 "rule" "I" ∈ zW) (hf : zlt (zsg σ 24 x) f = some out) (K : ∀ σ', f σ' = some out → V l d F k n (MW d h σ') lv pc' st) : V l d F k n (MW d h σ) lv pc (.int x :: .ref (h 0) :: st) := zr_put 0 inX11 tyX11 tyX11_ok nmX11 rfl rfl 24 (by decide) rfl rfl rfl rfl rfl (Nat.le_of_ble_eq_true rfl) hq rfl pc' C hd hp (K (zsg σ 24 x) hf)
theorem mg_0_25 {l : Launch} {d : zD} {F : zF} {k n : Nat} {lv : List (Option Value)} {pc : Nat} {st : List Value} {own : String} {cc : ByteArray} {nL fr lo : Nat} {h : Nat → Nat} {σ : zS} {idx : Nat} (pc' : Nat) (C : zOk d F own cc nL fr lo) (hd : decode cc pc = .ok (.getfield idx, 3)) (hp : pc + 3 = pc') (hq : Cond.fieldLink own idx RX11 "hasImage" "Z" ∈ zW) (K : V l d F k n (MW d h σ) lv pc' (.int (σ.1 25) :: st)) : V l d F k n (MW d h σ) lv pc (.ref (h 0) :: st) := zr_get 0 inX11 rfl rfl 25 (by decide) rfl rfl hq pc' C hd hp K
theorem mp_0_25 {l : Launch} {d : zD} {F : zF} {k n : Nat} {lv : List (Option Value)} {pc : Nat} {st : List Value} {own : String} {cc : ByteArray} {nL fr lo : Nat} {h : Nat → Nat} {σ : zS} {idx : Nat} {x : Int32} {β : Type} {f : zS → Option β} {out : β} (pc' : Nat) (C : zOk d F own cc nL fr lo) (hd : decode cc pc = .ok (.putfield idx, 3)) (hp : pc + 3 = pc') (hq : Cond.fieldLink own idx RX11 "hasImage" "Z" ∈ zW) (hz : narrow .boolean (.int x) = .int x) (hf : zlt (zsg σ 25 x) f = some out) (K : ∀ σ', f σ' = some out → V l d F k n (MW d h σ') lv pc' st) : V l d F k n (MW d h σ) lv pc (.int x :: .ref (h 0) :: st) := zr_put 0 inX11 tyX11 tyX11_ok nmX11 rfl rfl 25 (by decide) rfl rfl rfl hz (zfit hz) (Nat.le_of_ble_eq_true rfl) hq rfl pc' C hd hp (K (zsg σ 25 x) hf)
theorem mg_0_26 {l : Launch} {d : zD} {F : zF} {k n : Nat} {lv : List (Option Value)} {pc : Nat} {st : List Value} {own : String} {cc : ByteArray} {nL fr lo : Nat} {h : Nat → Nat} {σ : zS} {idx : Nat} (pc' : Nat) (C : zOk d F own cc nL fr lo) (hd : decode cc pc = .ok (.getfield idx, 3)) (hp : pc + 3 = pc') (hq : Cond.fieldLink own idx RX11 "imageHouses" "I" ∈ zW) (K : V l d F k n (MW d h σ) lv pc' (.int (σ.1 26) :: st)) : V l d F k n (MW d h σ) lv pc (.ref (h 0) :: st) := zr_get 0 inX11 rfl rfl 26 (by decide) rfl rfl hq pc' C hd hp K
theorem mp_0_26 {l : Launch} {d : zD} {F : zF} {k n : Nat} {lv : List (Option Value)} {pc : Nat} {st : List Value} {own : String} {cc : ByteArray} {nL fr lo : Nat} {h : Nat → Nat} {σ : zS} {idx : Nat} {x : Int32} {β : Type} {f : zS → Option β} {out : β} (pc' : Nat) (C : zOk d F own cc nL fr lo) (hd : decode cc pc = .ok (.putfield idx, 3)) (hp : pc + 3 = pc') (hq : Cond.fieldLink own idx RX11 "imageHouses" "I" ∈ zW) (hf : zlt (zsg σ 26 x) f = some out) (K : ∀ σ', f σ' = some out → V l d F k n (MW d h σ') lv pc' st) : V l d F k n (MW d h σ) lv pc (.int x :: .ref (h 0) :: st) := zr_put 0 inX11 tyX11 tyX11_ok nmX11 rfl rfl 26 (by decide) rfl rfl rfl rfl rfl (Nat.le_of_ble_eq_true rfl) hq rfl pc' C hd hp (K (zsg σ 26 x) hf)
theorem mg_0_27 {l : Launch} {d : zD} {F : zF} {k n : Nat} {lv : List (Option Value)} {pc : Nat} {st : List Value} {own : String} {cc : ByteArray} {nL fr lo : Nat} {h : Nat → Nat} {σ : zS} {idx : Nat} (pc' : Nat) (C : zOk d F own cc nL fr lo) (hd : decode cc pc = .ok (.getfield idx, 3)) (hp : pc + 3 = pc') (hq : Cond.fieldLink own idx RX11 "imagePeople" "I" ∈ zW) (K : V l d F k n (MW d h σ) lv pc' (.int (σ.1 27) :: st)) : V l d F k n (MW d h σ) lv pc (.ref (h 0) :: st) := zr_get 0 inX11 rfl rfl 27 (by decide) rfl rfl hq pc' C hd hp K
theorem mp_0_27 {l : Launch} {d : zD} {F : zF} {k n : Nat} {lv : List (Option Value)} {pc : Nat} {st : List Value} {own : String} {cc : ByteArray} {nL fr lo : Nat} {h : Nat → Nat} {σ : zS} {idx : Nat} {x : Int32} {β : Type} {f : zS → Option β} {out : β} (pc' : Nat) (C : zOk d F own cc nL fr lo) (hd : decode cc pc = .ok (.putfield idx, 3)) (hp : pc + 3 = pc') (hq : Cond.fieldLink own idx RX11 "imagePeople" "I" ∈ zW) (hf : zlt (zsg σ 27 x) f = some out) (K : ∀ σ', f σ' = some out → V l d F k n (MW d h σ') lv pc' st) : V l d F k n (MW d h σ) lv pc (.int x :: .ref (h 0) :: st) := zr_put 0 inX11 tyX11 tyX11_ok nmX11 rfl rfl 27 (by decide) rfl rfl rfl rfl rfl (Nat.le_of_ble_eq_true rfl) hq rfl pc' C hd hp (K (zsg σ 27 x) hf)
theorem mg_0_28 {l : Launch} {d : zD} {F : zF} {k n : Nat} {lv : List (Option Value)} {pc : Nat} {st : List Value} {own : String} {cc : ByteArray} {nL fr lo : Nat} {h : Nat → Nat} {σ : zS} {idx : Nat} (pc' : Nat) (C : zOk d F own cc nL fr lo) (hd : decode cc pc = .ok (.getfield idx, 3)) (hp : pc + 3 = pc') (hq : Cond.fieldLink own idx RX11 "imageLoaf" "I" ∈ zW) (K : V l d F k n (MW d h σ) lv pc' (.int (σ.1 28) :: st)) : V l d F k n (MW d h σ) lv pc (.ref (h 0) :: st) := zr_get 0 inX11 rfl rfl 28 (by decide) rfl rfl hq pc' C hd hp K
theorem mp_0_28 {l : Launch} {d : zD} {F : zF} {k n : Nat} {lv : List (Option Value)} {pc : Nat} {st : List Value} {own : String} {cc : ByteArray} {nL fr lo : Nat} {h : Nat → Nat} {σ : zS} {idx : Nat} {x : Int32} {β : Type} {f : zS → Option β} {out : β} (pc' : Nat) (C : zOk d F own cc nL fr lo) (hd : decode cc pc = .ok (.putfield idx, 3)) (hp : pc + 3 = pc') (hq : Cond.fieldLink own idx RX11 "imageLoaf" "I" ∈ zW) (hf : zlt (zsg σ 28 x) f = some out) (K : ∀ σ', f σ' = some out → V l d F k n (MW d h σ') lv pc' st) : V l d F k n (MW d h σ) lv pc (.int x :: .ref (h 0) :: st) := zr_put 0 inX11 tyX11 tyX11_ok nmX11 rfl rfl 28 (by decide) rfl rfl rfl rfl rfl (Nat.le_of_ble_eq_true rfl) hq rfl pc' C hd hp (K (zsg σ 28 x) hf)
theorem mg_0_29 {l : Launch} {d : zD} {F : zF} {k n : Nat} {lv : List (Option Value)} {pc : Nat} {st : List Value} {own : String} {cc : ByteArray} {nL fr lo : Nat} {h : Nat → Nat} {σ : zS} {idx : Nat} (pc' : Nat) (C : zOk d F own cc nL fr lo) (hd : decode cc pc = .ok (.getfield idx, 3)) (hp : pc + 3 = pc') (hq : Cond.fieldLink own idx RX11 "imageRule" "I" ∈ zW) (K : V l d F k n (MW d h σ) lv pc' (.int (σ.1 29) :: st)) : V l d F k n (MW d h σ) lv pc (.ref (h 0) :: st) := zr_get 0 inX11 rfl rfl 29 (by decide) rfl rfl hq pc' C hd hp K
theorem mp_0_29 {l : Launch} {d : zD} {F : zF} {k n : Nat} {lv : List (Option Value)} {pc : Nat} {st : List Value} {own : String} {cc : ByteArray} {nL fr lo : Nat} {h : Nat → Nat} {σ : zS} {idx : Nat} {x : Int32} {β : Type} {f : zS → Option β} {out : β} (pc' : Nat) (C : zOk d F own cc nL fr lo) (hd : decode cc pc = .ok (.putfield idx, 3)) (hp : pc + 3 = pc') (hq : Cond.fieldLink own idx RX11 "imageRule" "I" ∈ zW) (hf : zlt (zsg σ 29 x) f = some out) (K : ∀ σ', f σ' = some out → V l d F k n (MW d h σ') lv pc' st) : V l d F k n (MW d h σ) lv pc (.int x :: .ref (h 0) :: st) := zr_put 0 inX11 tyX11 tyX11_ok nmX11 rfl rfl 29 (by decide) rfl rfl rfl rfl rfl (Nat.le_of_ble_eq_true rfl) hq rfl pc' C hd hp (K (zsg σ 29 x) hf)
theorem mg_0_30 {l : Launch} {d : zD} {F : zF} {k n : Nat} {lv : List (Option Value)} {pc : Nat} {st : List Value} {own : String} {cc : ByteArray} {nL fr lo : Nat} {h : Nat → Nat} {σ : zS} {idx : Nat} (pc' : Nat) (C : zOk d F own cc nL fr lo) (hd : decode cc pc = .ok (.getfield idx, 3)) (hp : pc + 3 = pc') (hq : Cond.fieldLink own idx RX11 "imageHut" "[I" ∈ zW) (K : V l d F k n (MW d h σ) lv pc' (.ref (h 17) :: st)) : V l d F k n (MW d h σ) lv pc (.ref (h 0) :: st) := zr_get 0 inX11 rfl rfl 30 (by decide) rfl rfl hq pc' C hd hp K
theorem mg_0_31 {l : Launch} {d : zD} {F : zF} {k n : Nat} {lv : List (Option Value)} {pc : Nat} {st : List Value} {own : String} {cc : ByteArray} {nL fr lo : Nat} {h : Nat → Nat} {σ : zS} {idx : Nat} (pc' : Nat) (C : zOk d F own cc nL fr lo) (hd : decode cc pc = .ok (.getfield idx, 3)) (hp : pc + 3 = pc') (hq : Cond.fieldLink own idx RX11 "imageAt" "[I" ∈ zW) (K : V l d F k n (MW d h σ) lv pc' (.ref (h 18) :: st)) : V l d F k n (MW d h σ) lv pc (.ref (h 0) :: st) := zr_get 0 inX11 rfl rfl 31 (by decide) rfl rfl hq pc' C hd hp K
theorem mg_0_32 {l : Launch} {d : zD} {F : zF} {k n : Nat} {lv : List (Option Value)} {pc : Nat} {st : List Value} {own : String} {cc : ByteArray} {nL fr lo : Nat} {h : Nat → Nat} {σ : zS} {idx : Nat} (pc' : Nat) (C : zOk d F own cc nL fr lo) (hd : decode cc pc = .ok (.getfield idx, 3)) (hp : pc + 3 = pc') (hq : Cond.fieldLink own idx RX11 "sheetSort" "[I" ∈ zW) (K : V l d F k n (MW d h σ) lv pc' (.ref (h 19) :: st)) : V l d F k n (MW d h σ) lv pc (.ref (h 0) :: st) := zr_get 0 inX11 rfl rfl 32 (by decide) rfl rfl hq pc' C hd hp K
theorem mg_0_33 {l : Launch} {d : zD} {F : zF} {k n : Nat} {lv : List (Option Value)} {pc : Nat} {st : List Value} {own : String} {cc : ByteArray} {nL fr lo : Nat} {h : Nat → Nat} {σ : zS} {idx : Nat} (pc' : Nat) (C : zOk d F own cc nL fr lo) (hd : decode cc pc = .ok (.getfield idx, 3)) (hp : pc + 3 = pc') (hq : Cond.fieldLink own idx RX11 "sheetSize" "[I" ∈ zW) (K : V l d F k n (MW d h σ) lv pc' (.ref (h 20) :: st)) : V l d F k n (MW d h σ) lv pc (.ref (h 0) :: st) := zr_get 0 inX11 rfl rfl 33 (by decide) rfl rfl hq pc' C hd hp K
theorem mg_0_34 {l : Launch} {d : zD} {F : zF} {k n : Nat} {lv : List (Option Value)} {pc : Nat} {st : List Value} {own : String} {cc : ByteArray} {nL fr lo : Nat} {h : Nat → Nat} {σ : zS} {idx : Nat} (pc' : Nat) (C : zOk d F own cc nL fr lo) (hd : decode cc pc = .ok (.getfield idx, 3)) (hp : pc + 3 = pc') (hq : Cond.fieldLink own idx RX11 "cells" "[I" ∈ zW) (K : V l d F k n (MW d h σ) lv pc' (.ref (h 21) :: st)) : V l d F k n (MW d h σ) lv pc (.ref (h 0) :: st) := zr_get 0 inX11 rfl rfl 34 (by decide) rfl rfl hq pc' C hd hp K
theorem mg_0_35 {l : Launch} {d : zD} {F : zF} {k n : Nat} {lv : List (Option Value)} {pc : Nat} {st : List Value} {own : String} {cc : ByteArray} {nL fr lo : Nat} {h : Nat → Nat} {σ : zS} {idx : Nat} (pc' : Nat) (C : zOk d F own cc nL fr lo) (hd : decode cc pc = .ok (.getfield idx, 3)) (hp : pc + 3 = pc') (hq : Cond.fieldLink own idx RX11 "at" "I" ∈ zW) (K : V l d F k n (MW d h σ) lv pc' (.int (σ.1 35) :: st)) : V l d F k n (MW d h σ) lv pc (.ref (h 0) :: st) := zr_get 0 inX11 rfl rfl 35 (by decide) rfl rfl hq pc' C hd hp K
theorem mp_0_35 {l : Launch} {d : zD} {F : zF} {k n : Nat} {lv : List (Option Value)} {pc : Nat} {st : List Value} {own : String} {cc : ByteArray} {nL fr lo : Nat} {h : Nat → Nat} {σ : zS} {idx : Nat} {x : Int32} {β : Type} {f : zS → Option β} {out : β} (pc' : Nat) (C : zOk d F own cc nL fr lo) (hd : decode cc pc = .ok (.putfield idx, 3)) (hp : pc + 3 = pc') (hq : Cond.fieldLink own idx RX11 "at" "I" ∈ zW) (hf : zlt (zsg σ 35 x) f = some out) (K : ∀ σ', f σ' = some out → V l d F k n (MW d h σ') lv pc' st) : V l d F k n (MW d h σ) lv pc (.int x :: .ref (h 0) :: st) := zr_put 0 inX11 tyX11 tyX11_ok nmX11 rfl rfl 35 (by decide) rfl rfl rfl rfl rfl (Nat.le_of_ble_eq_true rfl) hq rfl pc' C hd hp (K (zsg σ 35 x) hf)
theorem mg_0_36 {l : Launch} {d : zD} {F : zF} {k n : Nat} {lv : List (Option Value)} {pc : Nat} {st : List Value} {own : String} {cc : ByteArray} {nL fr lo : Nat} {h : Nat → Nat} {σ : zS} {idx : Nat} (pc' : Nat) (C : zOk d F own cc nL fr lo) (hd : decode cc pc = .ok (.getfield idx, 3)) (hp : pc + 3 = pc') (hq : Cond.fieldLink own idx RX11 "begun" "I" ∈ zW) (K : V l d F k n (MW d h σ) lv pc' (.int (σ.1 36) :: st)) : V l d F k n (MW d h σ) lv pc (.ref (h 0) :: st) := zr_get 0 inX11 rfl rfl 36 (by decide) rfl rfl hq pc' C hd hp K
theorem mp_0_36 {l : Launch} {d : zD} {F : zF} {k n : Nat} {lv : List (Option Value)} {pc : Nat} {st : List Value} {own : String} {cc : ByteArray} {nL fr lo : Nat} {h : Nat → Nat} {σ : zS} {idx : Nat} {x : Int32} {β : Type} {f : zS → Option β} {out : β} (pc' : Nat) (C : zOk d F own cc nL fr lo) (hd : decode cc pc = .ok (.putfield idx, 3)) (hp : pc + 3 = pc') (hq : Cond.fieldLink own idx RX11 "begun" "I" ∈ zW) (hf : zlt (zsg σ 36 x) f = some out) (K : ∀ σ', f σ' = some out → V l d F k n (MW d h σ') lv pc' st) : V l d F k n (MW d h σ) lv pc (.int x :: .ref (h 0) :: st) := zr_put 0 inX11 tyX11 tyX11_ok nmX11 rfl rfl 36 (by decide) rfl rfl rfl rfl rfl (Nat.le_of_ble_eq_true rfl) hq rfl pc' C hd hp (K (zsg σ 36 x) hf)
theorem mg_0_37 {l : Launch} {d : zD} {F : zF} {k n : Nat} {lv : List (Option Value)} {pc : Nat} {st : List Value} {own : String} {cc : ByteArray} {nL fr lo : Nat} {h : Nat → Nat} {σ : zS} {idx : Nat} (pc' : Nat) (C : zOk d F own cc nL fr lo) (hd : decode cc pc = .ok (.getfield idx, 3)) (hp : pc + 3 = pc') (hq : Cond.fieldLink own idx RX11 "token" "I" ∈ zW) (K : V l d F k n (MW d h σ) lv pc' (.int (σ.1 37) :: st)) : V l d F k n (MW d h σ) lv pc (.ref (h 0) :: st) := zr_get 0 inX11 rfl rfl 37 (by decide) rfl rfl hq pc' C hd hp K
theorem mp_0_37 {l : Launch} {d : zD} {F : zF} {k n : Nat} {lv : List (Option Value)} {pc : Nat} {st : List Value} {own : String} {cc : ByteArray} {nL fr lo : Nat} {h : Nat → Nat} {σ : zS} {idx : Nat} {x : Int32} {β : Type} {f : zS → Option β} {out : β} (pc' : Nat) (C : zOk d F own cc nL fr lo) (hd : decode cc pc = .ok (.putfield idx, 3)) (hp : pc + 3 = pc') (hq : Cond.fieldLink own idx RX11 "token" "I" ∈ zW) (hf : zlt (zsg σ 37 x) f = some out) (K : ∀ σ', f σ' = some out → V l d F k n (MW d h σ') lv pc' st) : V l d F k n (MW d h σ) lv pc (.int x :: .ref (h 0) :: st) := zr_put 0 inX11 tyX11 tyX11_ok nmX11 rfl rfl 37 (by decide) rfl rfl rfl rfl rfl (Nat.le_of_ble_eq_true rfl) hq rfl pc' C hd hp (K (zsg σ 37 x) hf)
theorem mg_0_38 {l : Launch} {d : zD} {F : zF} {k n : Nat} {lv : List (Option Value)} {pc : Nat} {st : List Value} {own : String} {cc : ByteArray} {nL fr lo : Nat} {h : Nat → Nat} {σ : zS} {idx : Nat} (pc' : Nat) (C : zOk d F own cc nL fr lo) (hd : decode cc pc = .ok (.getfield idx, 3)) (hp : pc + 3 = pc') (hq : Cond.fieldLink own idx RX11 "value" "I" ∈ zW) (K : V l d F k n (MW d h σ) lv pc' (.int (σ.1 38) :: st)) : V l d F k n (MW d h σ) lv pc (.ref (h 0) :: st) := zr_get 0 inX11 rfl rfl 38 (by decide) rfl rfl hq pc' C hd hp K
theorem mp_0_38 {l : Launch} {d : zD} {F : zF} {k n : Nat} {lv : List (Option Value)} {pc : Nat} {st : List Value} {own : String} {cc : ByteArray} {nL fr lo : Nat} {h : Nat → Nat} {σ : zS} {idx : Nat} {x : Int32} {β : Type} {f : zS → Option β} {out : β} (pc' : Nat) (C : zOk d F own cc nL fr lo) (hd : decode cc pc = .ok (.putfield idx, 3)) (hp : pc + 3 = pc') (hq : Cond.fieldLink own idx RX11 "value" "I" ∈ zW) (hf : zlt (zsg σ 38 x) f = some out) (K : ∀ σ', f σ' = some out → V l d F k n (MW d h σ') lv pc' st) : V l d F k n (MW d h σ) lv pc (.int x :: .ref (h 0) :: st) := zr_put 0 inX11 tyX11 tyX11_ok nmX11 rfl rfl 38 (by decide) rfl rfl rfl rfl rfl (Nat.le_of_ble_eq_true rfl) hq rfl pc' C hd hp (K (zsg σ 38 x) hf)
theorem mg_0_39 {l : Launch} {d : zD} {F : zF} {k n : Nat} {lv : List (Option Value)} {pc : Nat} {st : List Value} {own : String} {cc : ByteArray} {nL fr lo : Nat} {h : Nat → Nat} {σ : zS} {idx : Nat} (pc' : Nat) (C : zOk d F own cc nL fr lo) (hd : decode cc pc = .ok (.getfield idx, 3)) (hp : pc + 3 = pc') (hq : Cond.fieldLink own idx RX11 "words" "[J" ∈ zW) (K : V l d F k n (MW d h σ) lv pc' (.ref (h 22) :: st)) : V l d F k n (MW d h σ) lv pc (.ref (h 0) :: st) := zr_get 0 inX11 rfl rfl 39 (by decide) rfl rfl hq pc' C hd hp K
theorem mg_0_40 {l : Launch} {d : zD} {F : zF} {k n : Nat} {lv : List (Option Value)} {pc : Nat} {st : List Value} {own : String} {cc : ByteArray} {nL fr lo : Nat} {h : Nat → Nat} {σ : zS} {idx : Nat} (pc' : Nat) (C : zOk d F own cc nL fr lo) (hd : decode cc pc = .ok (.getfield idx, 3)) (hp : pc + 3 = pc') (hq : Cond.fieldLink own idx RX11 "held" "[I" ∈ zW) (K : V l d F k n (MW d h σ) lv pc' (.ref (h 23) :: st)) : V l d F k n (MW d h σ) lv pc (.ref (h 0) :: st) := zr_get 0 inX11 rfl rfl 40 (by decide) rfl rfl hq pc' C hd hp K
theorem mg_0_41 {l : Launch} {d : zD} {F : zF} {k n : Nat} {lv : List (Option Value)} {pc : Nat} {st : List Value} {own : String} {cc : ByteArray} {nL fr lo : Nat} {h : Nat → Nat} {σ : zS} {idx : Nat} (pc' : Nat) (C : zOk d F own cc nL fr lo) (hd : decode cc pc = .ok (.getfield idx, 3)) (hp : pc + 3 = pc') (hq : Cond.fieldLink own idx RX11 "heldMany" "I" ∈ zW) (K : V l d F k n (MW d h σ) lv pc' (.int (σ.1 41) :: st)) : V l d F k n (MW d h σ) lv pc (.ref (h 0) :: st) := zr_get 0 inX11 rfl rfl 41 (by decide) rfl rfl hq pc' C hd hp K
theorem mp_0_41 {l : Launch} {d : zD} {F : zF} {k n : Nat} {lv : List (Option Value)} {pc : Nat} {st : List Value} {own : String} {cc : ByteArray} {nL fr lo : Nat} {h : Nat → Nat} {σ : zS} {idx : Nat} {x : Int32} {β : Type} {f : zS → Option β} {out : β} (pc' : Nat) (C : zOk d F own cc nL fr lo) (hd : decode cc pc = .ok (.putfield idx, 3)) (hp : pc + 3 = pc') (hq : Cond.fieldLink own idx RX11 "heldMany" "I" ∈ zW) (hf : zlt (zsg σ 41 x) f = some out) (K : ∀ σ', f σ' = some out → V l d F k n (MW d h σ') lv pc' st) : V l d F k n (MW d h σ) lv pc (.int x :: .ref (h 0) :: st) := zr_put 0 inX11 tyX11 tyX11_ok nmX11 rfl rfl 41 (by decide) rfl rfl rfl rfl rfl (Nat.le_of_ble_eq_true rfl) hq rfl pc' C hd hp (K (zsg σ 41 x) hf)
theorem mg_0_42 {l : Launch} {d : zD} {F : zF} {k n : Nat} {lv : List (Option Value)} {pc : Nat} {st : List Value} {own : String} {cc : ByteArray} {nL fr lo : Nat} {h : Nat → Nat} {σ : zS} {idx : Nat} (pc' : Nat) (C : zOk d F own cc nL fr lo) (hd : decode cc pc = .ok (.getfield idx, 3)) (hp : pc + 3 = pc') (hq : Cond.fieldLink own idx RX11 "opens" "I" ∈ zW) (K : V l d F k n (MW d h σ) lv pc' (.int (σ.1 42) :: st)) : V l d F k n (MW d h σ) lv pc (.ref (h 0) :: st) := zr_get 0 inX11 rfl rfl 42 (by decide) rfl rfl hq pc' C hd hp K
theorem mp_0_42 {l : Launch} {d : zD} {F : zF} {k n : Nat} {lv : List (Option Value)} {pc : Nat} {st : List Value} {own : String} {cc : ByteArray} {nL fr lo : Nat} {h : Nat → Nat} {σ : zS} {idx : Nat} {x : Int32} {β : Type} {f : zS → Option β} {out : β} (pc' : Nat) (C : zOk d F own cc nL fr lo) (hd : decode cc pc = .ok (.putfield idx, 3)) (hp : pc + 3 = pc') (hq : Cond.fieldLink own idx RX11 "opens" "I" ∈ zW) (hf : zlt (zsg σ 42 x) f = some out) (K : ∀ σ', f σ' = some out → V l d F k n (MW d h σ') lv pc' st) : V l d F k n (MW d h σ) lv pc (.int x :: .ref (h 0) :: st) := zr_put 0 inX11 tyX11 tyX11_ok nmX11 rfl rfl 42 (by decide) rfl rfl rfl rfl rfl (Nat.le_of_ble_eq_true rfl) hq rfl pc' C hd hp (K (zsg σ 42 x) hf)
theorem mg_0_43 {l : Launch} {d : zD} {F : zF} {k n : Nat} {lv : List (Option Value)} {pc : Nat} {st : List Value} {own : String} {cc : ByteArray} {nL fr lo : Nat} {h : Nat → Nat} {σ : zS} {idx : Nat} (pc' : Nat) (C : zOk d F own cc nL fr lo) (hd : decode cc pc = .ok (.getfield idx, 3)) (hp : pc + 3 = pc') (hq : Cond.fieldLink own idx RX11 "out" "I" ∈ zW) (K : V l d F k n (MW d h σ) lv pc' (.int (σ.1 43) :: st)) : V l d F k n (MW d h σ) lv pc (.ref (h 0) :: st) := zr_get 0 inX11 rfl rfl 43 (by decide) rfl rfl hq pc' C hd hp K
theorem mp_0_43 {l : Launch} {d : zD} {F : zF} {k n : Nat} {lv : List (Option Value)} {pc : Nat} {st : List Value} {own : String} {cc : ByteArray} {nL fr lo : Nat} {h : Nat → Nat} {σ : zS} {idx : Nat} {x : Int32} {β : Type} {f : zS → Option β} {out : β} (pc' : Nat) (C : zOk d F own cc nL fr lo) (hd : decode cc pc = .ok (.putfield idx, 3)) (hp : pc + 3 = pc') (hq : Cond.fieldLink own idx RX11 "out" "I" ∈ zW) (hf : zlt (zsg σ 43 x) f = some out) (K : ∀ σ', f σ' = some out → V l d F k n (MW d h σ') lv pc' st) : V l d F k n (MW d h σ) lv pc (.int x :: .ref (h 0) :: st) := zr_put 0 inX11 tyX11 tyX11_ok nmX11 rfl rfl 43 (by decide) rfl rfl rfl rfl rfl (Nat.le_of_ble_eq_true rfl) hq rfl pc' C hd hp (K (zsg σ 43 x) hf)
theorem mg_0_44 {l : Launch} {d : zD} {F : zF} {k n : Nat} {lv : List (Option Value)} {pc : Nat} {st : List Value} {own : String} {cc : ByteArray} {nL fr lo : Nat} {h : Nat → Nat} {σ : zS} {idx : Nat} (pc' : Nat) (C : zOk d F own cc nL fr lo) (hd : decode cc pc = .ok (.getfield idx, 3)) (hp : pc + 3 = pc') (hq : Cond.fieldLink own idx RX11 "stack" "[I" ∈ zW) (K : V l d F k n (MW d h σ) lv pc' (.ref (h 24) :: st)) : V l d F k n (MW d h σ) lv pc (.ref (h 0) :: st) := zr_get 0 inX11 rfl rfl 44 (by decide) rfl rfl hq pc' C hd hp K
theorem mg_0_45 {l : Launch} {d : zD} {F : zF} {k n : Nat} {lv : List (Option Value)} {pc : Nat} {st : List Value} {own : String} {cc : ByteArray} {nL fr lo : Nat} {h : Nat → Nat} {σ : zS} {idx : Nat} (pc' : Nat) (C : zOk d F own cc nL fr lo) (hd : decode cc pc = .ok (.getfield idx, 3)) (hp : pc + 3 = pc') (hq : Cond.fieldLink own idx RX11 "named" "[I" ∈ zW) (K : V l d F k n (MW d h σ) lv pc' (.ref (h 25) :: st)) : V l d F k n (MW d h σ) lv pc (.ref (h 0) :: st) := zr_get 0 inX11 rfl rfl 45 (by decide) rfl rfl hq pc' C hd hp K
theorem mg_0_46 {l : Launch} {d : zD} {F : zF} {k n : Nat} {lv : List (Option Value)} {pc : Nat} {st : List Value} {own : String} {cc : ByteArray} {nL fr lo : Nat} {h : Nat → Nat} {σ : zS} {idx : Nat} (pc' : Nat) (C : zOk d F own cc nL fr lo) (hd : decode cc pc = .ok (.getfield idx, 3)) (hp : pc + 3 = pc') (hq : Cond.fieldLink own idx RX11 "nowReach" "I" ∈ zW) (K : V l d F k n (MW d h σ) lv pc' (.int (σ.1 46) :: st)) : V l d F k n (MW d h σ) lv pc (.ref (h 0) :: st) := zr_get 0 inX11 rfl rfl 46 (by decide) rfl rfl hq pc' C hd hp K
theorem mp_0_46 {l : Launch} {d : zD} {F : zF} {k n : Nat} {lv : List (Option Value)} {pc : Nat} {st : List Value} {own : String} {cc : ByteArray} {nL fr lo : Nat} {h : Nat → Nat} {σ : zS} {idx : Nat} {x : Int32} {β : Type} {f : zS → Option β} {out : β} (pc' : Nat) (C : zOk d F own cc nL fr lo) (hd : decode cc pc = .ok (.putfield idx, 3)) (hp : pc + 3 = pc') (hq : Cond.fieldLink own idx RX11 "nowReach" "I" ∈ zW) (hf : zlt (zsg σ 46 x) f = some out) (K : ∀ σ', f σ' = some out → V l d F k n (MW d h σ') lv pc' st) : V l d F k n (MW d h σ) lv pc (.int x :: .ref (h 0) :: st) := zr_put 0 inX11 tyX11 tyX11_ok nmX11 rfl rfl 46 (by decide) rfl rfl rfl rfl rfl (Nat.le_of_ble_eq_true rfl) hq rfl pc' C hd hp (K (zsg σ 46 x) hf)
theorem mg_0_47 {l : Launch} {d : zD} {F : zF} {k n : Nat} {lv : List (Option Value)} {pc : Nat} {st : List Value} {own : String} {cc : ByteArray} {nL fr lo : Nat} {h : Nat → Nat} {σ : zS} {idx : Nat} (pc' : Nat) (C : zOk d F own cc nL fr lo) (hd : decode cc pc = .ok (.getfield idx, 3)) (hp : pc + 3 = pc') (hq : Cond.fieldLink own idx RX11 "nowTown" "I" ∈ zW) (K : V l d F k n (MW d h σ) lv pc' (.int (σ.1 47) :: st)) : V l d F k n (MW d h σ) lv pc (.ref (h 0) :: st) := zr_get 0 inX11 rfl rfl 47 (by decide) rfl rfl hq pc' C hd hp K
theorem mp_0_47 {l : Launch} {d : zD} {F : zF} {k n : Nat} {lv : List (Option Value)} {pc : Nat} {st : List Value} {own : String} {cc : ByteArray} {nL fr lo : Nat} {h : Nat → Nat} {σ : zS} {idx : Nat} {x : Int32} {β : Type} {f : zS → Option β} {out : β} (pc' : Nat) (C : zOk d F own cc nL fr lo) (hd : decode cc pc = .ok (.putfield idx, 3)) (hp : pc + 3 = pc') (hq : Cond.fieldLink own idx RX11 "nowTown" "I" ∈ zW) (hf : zlt (zsg σ 47 x) f = some out) (K : ∀ σ', f σ' = some out → V l d F k n (MW d h σ') lv pc' st) : V l d F k n (MW d h σ) lv pc (.int x :: .ref (h 0) :: st) := zr_put 0 inX11 tyX11 tyX11_ok nmX11 rfl rfl 47 (by decide) rfl rfl rfl rfl rfl (Nat.le_of_ble_eq_true rfl) hq rfl pc' C hd hp (K (zsg σ 47 x) hf)
theorem mg_0_48 {l : Launch} {d : zD} {F : zF} {k n : Nat} {lv : List (Option Value)} {pc : Nat} {st : List Value} {own : String} {cc : ByteArray} {nL fr lo : Nat} {h : Nat → Nat} {σ : zS} {idx : Nat} (pc' : Nat) (C : zOk d F own cc nL fr lo) (hd : decode cc pc = .ok (.getfield idx, 3)) (hp : pc + 3 = pc') (hq : Cond.fieldLink own idx RX11 "lowX" "I" ∈ zW) (K : V l d F k n (MW d h σ) lv pc' (.int (σ.1 48) :: st)) : V l d F k n (MW d h σ) lv pc (.ref (h 0) :: st) := zr_get 0 inX11 rfl rfl 48 (by decide) rfl rfl hq pc' C hd hp K
theorem mp_0_48 {l : Launch} {d : zD} {F : zF} {k n : Nat} {lv : List (Option Value)} {pc : Nat} {st : List Value} {own : String} {cc : ByteArray} {nL fr lo : Nat} {h : Nat → Nat} {σ : zS} {idx : Nat} {x : Int32} {β : Type} {f : zS → Option β} {out : β} (pc' : Nat) (C : zOk d F own cc nL fr lo) (hd : decode cc pc = .ok (.putfield idx, 3)) (hp : pc + 3 = pc') (hq : Cond.fieldLink own idx RX11 "lowX" "I" ∈ zW) (hf : zlt (zsg σ 48 x) f = some out) (K : ∀ σ', f σ' = some out → V l d F k n (MW d h σ') lv pc' st) : V l d F k n (MW d h σ) lv pc (.int x :: .ref (h 0) :: st) := zr_put 0 inX11 tyX11 tyX11_ok nmX11 rfl rfl 48 (by decide) rfl rfl rfl rfl rfl (Nat.le_of_ble_eq_true rfl) hq rfl pc' C hd hp (K (zsg σ 48 x) hf)
theorem mg_0_49 {l : Launch} {d : zD} {F : zF} {k n : Nat} {lv : List (Option Value)} {pc : Nat} {st : List Value} {own : String} {cc : ByteArray} {nL fr lo : Nat} {h : Nat → Nat} {σ : zS} {idx : Nat} (pc' : Nat) (C : zOk d F own cc nL fr lo) (hd : decode cc pc = .ok (.getfield idx, 3)) (hp : pc + 3 = pc') (hq : Cond.fieldLink own idx RX11 "highX" "I" ∈ zW) (K : V l d F k n (MW d h σ) lv pc' (.int (σ.1 49) :: st)) : V l d F k n (MW d h σ) lv pc (.ref (h 0) :: st) := zr_get 0 inX11 rfl rfl 49 (by decide) rfl rfl hq pc' C hd hp K
theorem mp_0_49 {l : Launch} {d : zD} {F : zF} {k n : Nat} {lv : List (Option Value)} {pc : Nat} {st : List Value} {own : String} {cc : ByteArray} {nL fr lo : Nat} {h : Nat → Nat} {σ : zS} {idx : Nat} {x : Int32} {β : Type} {f : zS → Option β} {out : β} (pc' : Nat) (C : zOk d F own cc nL fr lo) (hd : decode cc pc = .ok (.putfield idx, 3)) (hp : pc + 3 = pc') (hq : Cond.fieldLink own idx RX11 "highX" "I" ∈ zW) (hf : zlt (zsg σ 49 x) f = some out) (K : ∀ σ', f σ' = some out → V l d F k n (MW d h σ') lv pc' st) : V l d F k n (MW d h σ) lv pc (.int x :: .ref (h 0) :: st) := zr_put 0 inX11 tyX11 tyX11_ok nmX11 rfl rfl 49 (by decide) rfl rfl rfl rfl rfl (Nat.le_of_ble_eq_true rfl) hq rfl pc' C hd hp (K (zsg σ 49 x) hf)
theorem mg_0_50 {l : Launch} {d : zD} {F : zF} {k n : Nat} {lv : List (Option Value)} {pc : Nat} {st : List Value} {own : String} {cc : ByteArray} {nL fr lo : Nat} {h : Nat → Nat} {σ : zS} {idx : Nat} (pc' : Nat) (C : zOk d F own cc nL fr lo) (hd : decode cc pc = .ok (.getfield idx, 3)) (hp : pc + 3 = pc') (hq : Cond.fieldLink own idx RX11 "lowY" "I" ∈ zW) (K : V l d F k n (MW d h σ) lv pc' (.int (σ.1 50) :: st)) : V l d F k n (MW d h σ) lv pc (.ref (h 0) :: st) := zr_get 0 inX11 rfl rfl 50 (by decide) rfl rfl hq pc' C hd hp K
theorem mp_0_50 {l : Launch} {d : zD} {F : zF} {k n : Nat} {lv : List (Option Value)} {pc : Nat} {st : List Value} {own : String} {cc : ByteArray} {nL fr lo : Nat} {h : Nat → Nat} {σ : zS} {idx : Nat} {x : Int32} {β : Type} {f : zS → Option β} {out : β} (pc' : Nat) (C : zOk d F own cc nL fr lo) (hd : decode cc pc = .ok (.putfield idx, 3)) (hp : pc + 3 = pc') (hq : Cond.fieldLink own idx RX11 "lowY" "I" ∈ zW) (hf : zlt (zsg σ 50 x) f = some out) (K : ∀ σ', f σ' = some out → V l d F k n (MW d h σ') lv pc' st) : V l d F k n (MW d h σ) lv pc (.int x :: .ref (h 0) :: st) := zr_put 0 inX11 tyX11 tyX11_ok nmX11 rfl rfl 50 (by decide) rfl rfl rfl rfl rfl (Nat.le_of_ble_eq_true rfl) hq rfl pc' C hd hp (K (zsg σ 50 x) hf)
theorem mg_0_51 {l : Launch} {d : zD} {F : zF} {k n : Nat} {lv : List (Option Value)} {pc : Nat} {st : List Value} {own : String} {cc : ByteArray} {nL fr lo : Nat} {h : Nat → Nat} {σ : zS} {idx : Nat} (pc' : Nat) (C : zOk d F own cc nL fr lo) (hd : decode cc pc = .ok (.getfield idx, 3)) (hp : pc + 3 = pc') (hq : Cond.fieldLink own idx RX11 "highY" "I" ∈ zW) (K : V l d F k n (MW d h σ) lv pc' (.int (σ.1 51) :: st)) : V l d F k n (MW d h σ) lv pc (.ref (h 0) :: st) := zr_get 0 inX11 rfl rfl 51 (by decide) rfl rfl hq pc' C hd hp K
theorem mp_0_51 {l : Launch} {d : zD} {F : zF} {k n : Nat} {lv : List (Option Value)} {pc : Nat} {st : List Value} {own : String} {cc : ByteArray} {nL fr lo : Nat} {h : Nat → Nat} {σ : zS} {idx : Nat} {x : Int32} {β : Type} {f : zS → Option β} {out : β} (pc' : Nat) (C : zOk d F own cc nL fr lo) (hd : decode cc pc = .ok (.putfield idx, 3)) (hp : pc + 3 = pc') (hq : Cond.fieldLink own idx RX11 "highY" "I" ∈ zW) (hf : zlt (zsg σ 51 x) f = some out) (K : ∀ σ', f σ' = some out → V l d F k n (MW d h σ') lv pc' st) : V l d F k n (MW d h σ) lv pc (.int x :: .ref (h 0) :: st) := zr_put 0 inX11 tyX11 tyX11_ok nmX11 rfl rfl 51 (by decide) rfl rfl rfl rfl rfl (Nat.le_of_ble_eq_true rfl) hq rfl pc' C hd hp (K (zsg σ 51 x) hf)
theorem mg_0_52 {l : Launch} {d : zD} {F : zF} {k n : Nat} {lv : List (Option Value)} {pc : Nat} {st : List Value} {own : String} {cc : ByteArray} {nL fr lo : Nat} {h : Nat → Nat} {σ : zS} {idx : Nat} (pc' : Nat) (C : zOk d F own cc nL fr lo) (hd : decode cc pc = .ok (.getfield idx, 3)) (hp : pc + 3 = pc') (hq : Cond.fieldLink own idx RX11 "inOne" "[Z" ∈ zW) (K : V l d F k n (MW d h σ) lv pc' (.ref (h 26) :: st)) : V l d F k n (MW d h σ) lv pc (.ref (h 0) :: st) := zr_get 0 inX11 rfl rfl 52 (by decide) rfl rfl hq pc' C hd hp K
theorem mg_0_53 {l : Launch} {d : zD} {F : zF} {k n : Nat} {lv : List (Option Value)} {pc : Nat} {st : List Value} {own : String} {cc : ByteArray} {nL fr lo : Nat} {h : Nat → Nat} {σ : zS} {idx : Nat} (pc' : Nat) (C : zOk d F own cc nL fr lo) (hd : decode cc pc = .ok (.getfield idx, 3)) (hp : pc + 3 = pc') (hq : Cond.fieldLink own idx RX11 "inOther" "[Z" ∈ zW) (K : V l d F k n (MW d h σ) lv pc' (.ref (h 27) :: st)) : V l d F k n (MW d h σ) lv pc (.ref (h 0) :: st) := zr_get 0 inX11 rfl rfl 53 (by decide) rfl rfl hq pc' C hd hp K
theorem mg_0_54 {l : Launch} {d : zD} {F : zF} {k n : Nat} {lv : List (Option Value)} {pc : Nat} {st : List Value} {own : String} {cc : ByteArray} {nL fr lo : Nat} {h : Nat → Nat} {σ : zS} {idx : Nat} (pc' : Nat) (C : zOk d F own cc nL fr lo) (hd : decode cc pc = .ok (.getfield idx, 3)) (hp : pc + 3 = pc') (hq : Cond.fieldLink own idx RX11 "least" "[I" ∈ zW) (K : V l d F k n (MW d h σ) lv pc' (.ref (h 28) :: st)) : V l d F k n (MW d h σ) lv pc (.ref (h 0) :: st) := zr_get 0 inX11 rfl rfl 54 (by decide) rfl rfl hq pc' C hd hp K
theorem mg_0_55 {l : Launch} {d : zD} {F : zF} {k n : Nat} {lv : List (Option Value)} {pc : Nat} {st : List Value} {own : String} {cc : ByteArray} {nL fr lo : Nat} {h : Nat → Nat} {σ : zS} {idx : Nat} (pc' : Nat) (C : zOk d F own cc nL fr lo) (hd : decode cc pc = .ok (.getfield idx, 3)) (hp : pc + 3 = pc') (hq : Cond.fieldLink own idx RX11 "ring" "[I" ∈ zW) (K : V l d F k n (MW d h σ) lv pc' (.ref (h 29) :: st)) : V l d F k n (MW d h σ) lv pc (.ref (h 0) :: st) := zr_get 0 inX11 rfl rfl 55 (by decide) rfl rfl hq pc' C hd hp K
theorem mg_0_56 {l : Launch} {d : zD} {F : zF} {k n : Nat} {lv : List (Option Value)} {pc : Nat} {st : List Value} {own : String} {cc : ByteArray} {nL fr lo : Nat} {h : Nat → Nat} {σ : zS} {idx : Nat} (pc' : Nat) (C : zOk d F own cc nL fr lo) (hd : decode cc pc = .ok (.getfield idx, 3)) (hp : pc + 3 = pc') (hq : Cond.fieldLink own idx RX11 "waits" "[Z" ∈ zW) (K : V l d F k n (MW d h σ) lv pc' (.ref (h 30) :: st)) : V l d F k n (MW d h σ) lv pc (.ref (h 0) :: st) := zr_get 0 inX11 rfl rfl 56 (by decide) rfl rfl hq pc' C hd hp K
theorem mg_0_57 {l : Launch} {d : zD} {F : zF} {k n : Nat} {lv : List (Option Value)} {pc : Nat} {st : List Value} {own : String} {cc : ByteArray} {nL fr lo : Nat} {h : Nat → Nat} {σ : zS} {idx : Nat} (pc' : Nat) (C : zOk d F own cc nL fr lo) (hd : decode cc pc = .ok (.getfield idx, 3)) (hp : pc + 3 = pc') (hq : Cond.fieldLink own idx RX11 "ringFrom" "I" ∈ zW) (K : V l d F k n (MW d h σ) lv pc' (.int (σ.1 57) :: st)) : V l d F k n (MW d h σ) lv pc (.ref (h 0) :: st) := zr_get 0 inX11 rfl rfl 57 (by decide) rfl rfl hq pc' C hd hp K
theorem mp_0_57 {l : Launch} {d : zD} {F : zF} {k n : Nat} {lv : List (Option Value)} {pc : Nat} {st : List Value} {own : String} {cc : ByteArray} {nL fr lo : Nat} {h : Nat → Nat} {σ : zS} {idx : Nat} {x : Int32} {β : Type} {f : zS → Option β} {out : β} (pc' : Nat) (C : zOk d F own cc nL fr lo) (hd : decode cc pc = .ok (.putfield idx, 3)) (hp : pc + 3 = pc') (hq : Cond.fieldLink own idx RX11 "ringFrom" "I" ∈ zW) (hf : zlt (zsg σ 57 x) f = some out) (K : ∀ σ', f σ' = some out → V l d F k n (MW d h σ') lv pc' st) : V l d F k n (MW d h σ) lv pc (.int x :: .ref (h 0) :: st) := zr_put 0 inX11 tyX11 tyX11_ok nmX11 rfl rfl 57 (by decide) rfl rfl rfl rfl rfl (Nat.le_of_ble_eq_true rfl) hq rfl pc' C hd hp (K (zsg σ 57 x) hf)
theorem mg_0_58 {l : Launch} {d : zD} {F : zF} {k n : Nat} {lv : List (Option Value)} {pc : Nat} {st : List Value} {own : String} {cc : ByteArray} {nL fr lo : Nat} {h : Nat → Nat} {σ : zS} {idx : Nat} (pc' : Nat) (C : zOk d F own cc nL fr lo) (hd : decode cc pc = .ok (.getfield idx, 3)) (hp : pc + 3 = pc') (hq : Cond.fieldLink own idx RX11 "ringMany" "I" ∈ zW) (K : V l d F k n (MW d h σ) lv pc' (.int (σ.1 58) :: st)) : V l d F k n (MW d h σ) lv pc (.ref (h 0) :: st) := zr_get 0 inX11 rfl rfl 58 (by decide) rfl rfl hq pc' C hd hp K
theorem mp_0_58 {l : Launch} {d : zD} {F : zF} {k n : Nat} {lv : List (Option Value)} {pc : Nat} {st : List Value} {own : String} {cc : ByteArray} {nL fr lo : Nat} {h : Nat → Nat} {σ : zS} {idx : Nat} {x : Int32} {β : Type} {f : zS → Option β} {out : β} (pc' : Nat) (C : zOk d F own cc nL fr lo) (hd : decode cc pc = .ok (.putfield idx, 3)) (hp : pc + 3 = pc') (hq : Cond.fieldLink own idx RX11 "ringMany" "I" ∈ zW) (hf : zlt (zsg σ 58 x) f = some out) (K : ∀ σ', f σ' = some out → V l d F k n (MW d h σ') lv pc' st) : V l d F k n (MW d h σ) lv pc (.int x :: .ref (h 0) :: st) := zr_put 0 inX11 tyX11 tyX11_ok nmX11 rfl rfl 58 (by decide) rfl rfl rfl rfl rfl (Nat.le_of_ble_eq_true rfl) hq rfl pc' C hd hp (K (zsg σ 58 x) hf)
theorem mg_0_59 {l : Launch} {d : zD} {F : zF} {k n : Nat} {lv : List (Option Value)} {pc : Nat} {st : List Value} {own : String} {cc : ByteArray} {nL fr lo : Nat} {h : Nat → Nat} {σ : zS} {idx : Nat} (pc' : Nat) (C : zOk d F own cc nL fr lo) (hd : decode cc pc = .ok (.getfield idx, 3)) (hp : pc + 3 = pc') (hq : Cond.fieldLink own idx RX11 "kept" "[I" ∈ zW) (K : V l d F k n (MW d h σ) lv pc' (.ref (h 31) :: st)) : V l d F k n (MW d h σ) lv pc (.ref (h 0) :: st) := zr_get 0 inX11 rfl rfl 59 (by decide) rfl rfl hq pc' C hd hp K
theorem ml_1 {l : Launch} {d : zD} {F : zF} {k n : Nat} {lv : List (Option Value)} {pc : Nat} {st : List Value} {own : String} {cc : ByteArray} {nL fr lo : Nat} {h : Nat → Nat} {σ : zS} {i : Int32} {β : Type} {X : Option β} {out : β} (pc' : Nat) (C : zOk d F own cc nL fr lo) (hd : decode cc pc = .ok (.iaload, 1)) (hp : pc + 1 = pc') (hf : zin i 20 X = some out) (K : X = some out → V l d F k n (MW d h σ) lv pc' (.int (σ.2 1 i.toNatClampNeg) :: st)) : V l d F k n (MW d h σ) lv pc (.int i :: .ref (h 1) :: st) := zr_iald 1 rfl pc' C hd hp hf K
theorem ms_1 {l : Launch} {d : zD} {F : zF} {k n : Nat} {lv : List (Option Value)} {pc : Nat} {st : List Value} {own : String} {cc : ByteArray} {nL fr lo : Nat} {h : Nat → Nat} {σ : zS} {i x : Int32} {β : Type} {f : zS → Option β} {out : β} (pc' : Nat) (C : zOk d F own cc nL fr lo) (hd : decode cc pc = .ok (.iastore, 1)) (hp : pc + 1 = pc') (hf : zin i 20 (zlt (zsa σ 1 i x) f) = some out) (K : ∀ σ', f σ' = some out → V l d F k n (MW d h σ') lv pc' st) : V l d F k n (MW d h σ) lv pc (.int x :: .int i :: .ref (h 1) :: st) := zr_iast 1 rfl rfl pc' C hd hp hf (fun hf => K (zsa σ 1 i x) hf)
theorem ml_2 {l : Launch} {d : zD} {F : zF} {k n : Nat} {lv : List (Option Value)} {pc : Nat} {st : List Value} {own : String} {cc : ByteArray} {nL fr lo : Nat} {h : Nat → Nat} {σ : zS} {i : Int32} {β : Type} {X : Option β} {out : β} (pc' : Nat) (C : zOk d F own cc nL fr lo) (hd : decode cc pc = .ok (.iaload, 1)) (hp : pc + 1 = pc') (hf : zin i 20 X = some out) (K : X = some out → V l d F k n (MW d h σ) lv pc' (.int (σ.2 2 i.toNatClampNeg) :: st)) : V l d F k n (MW d h σ) lv pc (.int i :: .ref (h 2) :: st) := zr_iald 2 rfl pc' C hd hp hf K
theorem ms_2 {l : Launch} {d : zD} {F : zF} {k n : Nat} {lv : List (Option Value)} {pc : Nat} {st : List Value} {own : String} {cc : ByteArray} {nL fr lo : Nat} {h : Nat → Nat} {σ : zS} {i x : Int32} {β : Type} {f : zS → Option β} {out : β} (pc' : Nat) (C : zOk d F own cc nL fr lo) (hd : decode cc pc = .ok (.iastore, 1)) (hp : pc + 1 = pc') (hf : zin i 20 (zlt (zsa σ 2 i x) f) = some out) (K : ∀ σ', f σ' = some out → V l d F k n (MW d h σ') lv pc' st) : V l d F k n (MW d h σ) lv pc (.int x :: .int i :: .ref (h 2) :: st) := zr_iast 2 rfl rfl pc' C hd hp hf (fun hf => K (zsa σ 2 i x) hf)
theorem ml_3 {l : Launch} {d : zD} {F : zF} {k n : Nat} {lv : List (Option Value)} {pc : Nat} {st : List Value} {own : String} {cc : ByteArray} {nL fr lo : Nat} {h : Nat → Nat} {σ : zS} {i : Int32} {β : Type} {X : Option β} {out : β} (pc' : Nat) (C : zOk d F own cc nL fr lo) (hd : decode cc pc = .ok (.iaload, 1)) (hp : pc + 1 = pc') (hf : zin i 12 X = some out) (K : X = some out → V l d F k n (MW d h σ) lv pc' (.int (σ.2 3 i.toNatClampNeg) :: st)) : V l d F k n (MW d h σ) lv pc (.int i :: .ref (h 3) :: st) := zr_iald 3 rfl pc' C hd hp hf K
theorem ms_3 {l : Launch} {d : zD} {F : zF} {k n : Nat} {lv : List (Option Value)} {pc : Nat} {st : List Value} {own : String} {cc : ByteArray} {nL fr lo : Nat} {h : Nat → Nat} {σ : zS} {i x : Int32} {β : Type} {f : zS → Option β} {out : β} (pc' : Nat) (C : zOk d F own cc nL fr lo) (hd : decode cc pc = .ok (.iastore, 1)) (hp : pc + 1 = pc') (hf : zin i 12 (zlt (zsa σ 3 i x) f) = some out) (K : ∀ σ', f σ' = some out → V l d F k n (MW d h σ') lv pc' st) : V l d F k n (MW d h σ) lv pc (.int x :: .int i :: .ref (h 3) :: st) := zr_iast 3 rfl rfl pc' C hd hp hf (fun hf => K (zsa σ 3 i x) hf)
theorem ml_4 {l : Launch} {d : zD} {F : zF} {k n : Nat} {lv : List (Option Value)} {pc : Nat} {st : List Value} {own : String} {cc : ByteArray} {nL fr lo : Nat} {h : Nat → Nat} {σ : zS} {i : Int32} {β : Type} {X : Option β} {out : β} (pc' : Nat) (C : zOk d F own cc nL fr lo) (hd : decode cc pc = .ok (.iaload, 1)) (hp : pc + 1 = pc') (hf : zin i 12 X = some out) (K : X = some out → V l d F k n (MW d h σ) lv pc' (.int (σ.2 4 i.toNatClampNeg) :: st)) : V l d F k n (MW d h σ) lv pc (.int i :: .ref (h 4) :: st) := zr_iald 4 rfl pc' C hd hp hf K
theorem ms_4 {l : Launch} {d : zD} {F : zF} {k n : Nat} {lv : List (Option Value)} {pc : Nat} {st : List Value} {own : String} {cc : ByteArray} {nL fr lo : Nat} {h : Nat → Nat} {σ : zS} {i x : Int32} {β : Type} {f : zS → Option β} {out : β} (pc' : Nat) (C : zOk d F own cc nL fr lo) (hd : decode cc pc = .ok (.iastore, 1)) (hp : pc + 1 = pc') (hf : zin i 12 (zlt (zsa σ 4 i x) f) = some out) (K : ∀ σ', f σ' = some out → V l d F k n (MW d h σ') lv pc' st) : V l d F k n (MW d h σ) lv pc (.int x :: .int i :: .ref (h 4) :: st) := zr_iast 4 rfl rfl pc' C hd hp hf (fun hf => K (zsa σ 4 i x) hf)
theorem ml_5 {l : Launch} {d : zD} {F : zF} {k n : Nat} {lv : List (Option Value)} {pc : Nat} {st : List Value} {own : String} {cc : ByteArray} {nL fr lo : Nat} {h : Nat → Nat} {σ : zS} {i : Int32} {β : Type} {X : Option β} {out : β} (pc' : Nat) (C : zOk d F own cc nL fr lo) (hd : decode cc pc = .ok (.iaload, 1)) (hp : pc + 1 = pc') (hf : zin i 12 X = some out) (K : X = some out → V l d F k n (MW d h σ) lv pc' (.int (σ.2 5 i.toNatClampNeg) :: st)) : V l d F k n (MW d h σ) lv pc (.int i :: .ref (h 5) :: st) := zr_iald 5 rfl pc' C hd hp hf K
theorem ms_5 {l : Launch} {d : zD} {F : zF} {k n : Nat} {lv : List (Option Value)} {pc : Nat} {st : List Value} {own : String} {cc : ByteArray} {nL fr lo : Nat} {h : Nat → Nat} {σ : zS} {i x : Int32} {β : Type} {f : zS → Option β} {out : β} (pc' : Nat) (C : zOk d F own cc nL fr lo) (hd : decode cc pc = .ok (.iastore, 1)) (hp : pc + 1 = pc') (hf : zin i 12 (zlt (zsa σ 5 i x) f) = some out) (K : ∀ σ', f σ' = some out → V l d F k n (MW d h σ') lv pc' st) : V l d F k n (MW d h σ) lv pc (.int x :: .int i :: .ref (h 5) :: st) := zr_iast 5 rfl rfl pc' C hd hp hf (fun hf => K (zsa σ 5 i x) hf)
theorem ml_6 {l : Launch} {d : zD} {F : zF} {k n : Nat} {lv : List (Option Value)} {pc : Nat} {st : List Value} {own : String} {cc : ByteArray} {nL fr lo : Nat} {h : Nat → Nat} {σ : zS} {i : Int32} {β : Type} {X : Option β} {out : β} (pc' : Nat) (C : zOk d F own cc nL fr lo) (hd : decode cc pc = .ok (.iaload, 1)) (hp : pc + 1 = pc') (hf : zin i 6 X = some out) (K : X = some out → V l d F k n (MW d h σ) lv pc' (.int (σ.2 6 i.toNatClampNeg) :: st)) : V l d F k n (MW d h σ) lv pc (.int i :: .ref (h 6) :: st) := zr_iald 6 rfl pc' C hd hp hf K
theorem ms_6 {l : Launch} {d : zD} {F : zF} {k n : Nat} {lv : List (Option Value)} {pc : Nat} {st : List Value} {own : String} {cc : ByteArray} {nL fr lo : Nat} {h : Nat → Nat} {σ : zS} {i x : Int32} {β : Type} {f : zS → Option β} {out : β} (pc' : Nat) (C : zOk d F own cc nL fr lo) (hd : decode cc pc = .ok (.iastore, 1)) (hp : pc + 1 = pc') (hf : zin i 6 (zlt (zsa σ 6 i x) f) = some out) (K : ∀ σ', f σ' = some out → V l d F k n (MW d h σ') lv pc' st) : V l d F k n (MW d h σ) lv pc (.int x :: .int i :: .ref (h 6) :: st) := zr_iast 6 rfl rfl pc' C hd hp hf (fun hf => K (zsa σ 6 i x) hf)
theorem ml_7 {l : Launch} {d : zD} {F : zF} {k n : Nat} {lv : List (Option Value)} {pc : Nat} {st : List Value} {own : String} {cc : ByteArray} {nL fr lo : Nat} {h : Nat → Nat} {σ : zS} {i : Int32} {β : Type} {X : Option β} {out : β} (pc' : Nat) (C : zOk d F own cc nL fr lo) (hd : decode cc pc = .ok (.iaload, 1)) (hp : pc + 1 = pc') (hf : zin i 6 X = some out) (K : X = some out → V l d F k n (MW d h σ) lv pc' (.int (σ.2 7 i.toNatClampNeg) :: st)) : V l d F k n (MW d h σ) lv pc (.int i :: .ref (h 7) :: st) := zr_iald 7 rfl pc' C hd hp hf K
theorem ms_7 {l : Launch} {d : zD} {F : zF} {k n : Nat} {lv : List (Option Value)} {pc : Nat} {st : List Value} {own : String} {cc : ByteArray} {nL fr lo : Nat} {h : Nat → Nat} {σ : zS} {i x : Int32} {β : Type} {f : zS → Option β} {out : β} (pc' : Nat) (C : zOk d F own cc nL fr lo) (hd : decode cc pc = .ok (.iastore, 1)) (hp : pc + 1 = pc') (hf : zin i 6 (zlt (zsa σ 7 i x) f) = some out) (K : ∀ σ', f σ' = some out → V l d F k n (MW d h σ') lv pc' st) : V l d F k n (MW d h σ) lv pc (.int x :: .int i :: .ref (h 7) :: st) := zr_iast 7 rfl rfl pc' C hd hp hf (fun hf => K (zsa σ 7 i x) hf)
theorem ml_8 {l : Launch} {d : zD} {F : zF} {k n : Nat} {lv : List (Option Value)} {pc : Nat} {st : List Value} {own : String} {cc : ByteArray} {nL fr lo : Nat} {h : Nat → Nat} {σ : zS} {i : Int32} {β : Type} {X : Option β} {out : β} (pc' : Nat) (C : zOk d F own cc nL fr lo) (hd : decode cc pc = .ok (.iaload, 1)) (hp : pc + 1 = pc') (hf : zin i 6 X = some out) (K : X = some out → V l d F k n (MW d h σ) lv pc' (.int (σ.2 8 i.toNatClampNeg) :: st)) : V l d F k n (MW d h σ) lv pc (.int i :: .ref (h 8) :: st) := zr_iald 8 rfl pc' C hd hp hf K
theorem ms_8 {l : Launch} {d : zD} {F : zF} {k n : Nat} {lv : List (Option Value)} {pc : Nat} {st : List Value} {own : String} {cc : ByteArray} {nL fr lo : Nat} {h : Nat → Nat} {σ : zS} {i x : Int32} {β : Type} {f : zS → Option β} {out : β} (pc' : Nat) (C : zOk d F own cc nL fr lo) (hd : decode cc pc = .ok (.iastore, 1)) (hp : pc + 1 = pc') (hf : zin i 6 (zlt (zsa σ 8 i x) f) = some out) (K : ∀ σ', f σ' = some out → V l d F k n (MW d h σ') lv pc' st) : V l d F k n (MW d h σ) lv pc (.int x :: .int i :: .ref (h 8) :: st) := zr_iast 8 rfl rfl pc' C hd hp hf (fun hf => K (zsa σ 8 i x) hf)
theorem ml_9 {l : Launch} {d : zD} {F : zF} {k n : Nat} {lv : List (Option Value)} {pc : Nat} {st : List Value} {own : String} {cc : ByteArray} {nL fr lo : Nat} {h : Nat → Nat} {σ : zS} {i : Int32} {β : Type} {X : Option β} {out : β} (pc' : Nat) (C : zOk d F own cc nL fr lo) (hd : decode cc pc = .ok (.iaload, 1)) (hp : pc + 1 = pc') (hf : zin i 6 X = some out) (K : X = some out → V l d F k n (MW d h σ) lv pc' (.int (σ.2 9 i.toNatClampNeg) :: st)) : V l d F k n (MW d h σ) lv pc (.int i :: .ref (h 9) :: st) := zr_iald 9 rfl pc' C hd hp hf K
theorem ms_9 {l : Launch} {d : zD} {F : zF} {k n : Nat} {lv : List (Option Value)} {pc : Nat} {st : List Value} {own : String} {cc : ByteArray} {nL fr lo : Nat} {h : Nat → Nat} {σ : zS} {i x : Int32} {β : Type} {f : zS → Option β} {out : β} (pc' : Nat) (C : zOk d F own cc nL fr lo) (hd : decode cc pc = .ok (.iastore, 1)) (hp : pc + 1 = pc') (hf : zin i 6 (zlt (zsa σ 9 i x) f) = some out) (K : ∀ σ', f σ' = some out → V l d F k n (MW d h σ') lv pc' st) : V l d F k n (MW d h σ) lv pc (.int x :: .int i :: .ref (h 9) :: st) := zr_iast 9 rfl rfl pc' C hd hp hf (fun hf => K (zsa σ 9 i x) hf)
theorem ml_10 {l : Launch} {d : zD} {F : zF} {k n : Nat} {lv : List (Option Value)} {pc : Nat} {st : List Value} {own : String} {cc : ByteArray} {nL fr lo : Nat} {h : Nat → Nat} {σ : zS} {i : Int32} {β : Type} {X : Option β} {out : β} (pc' : Nat) (C : zOk d F own cc nL fr lo) (hd : decode cc pc = .ok (.iaload, 1)) (hp : pc + 1 = pc') (hf : zin i 6 X = some out) (K : X = some out → V l d F k n (MW d h σ) lv pc' (.int (σ.2 10 i.toNatClampNeg) :: st)) : V l d F k n (MW d h σ) lv pc (.int i :: .ref (h 10) :: st) := zr_iald 10 rfl pc' C hd hp hf K
theorem ms_10 {l : Launch} {d : zD} {F : zF} {k n : Nat} {lv : List (Option Value)} {pc : Nat} {st : List Value} {own : String} {cc : ByteArray} {nL fr lo : Nat} {h : Nat → Nat} {σ : zS} {i x : Int32} {β : Type} {f : zS → Option β} {out : β} (pc' : Nat) (C : zOk d F own cc nL fr lo) (hd : decode cc pc = .ok (.iastore, 1)) (hp : pc + 1 = pc') (hf : zin i 6 (zlt (zsa σ 10 i x) f) = some out) (K : ∀ σ', f σ' = some out → V l d F k n (MW d h σ') lv pc' st) : V l d F k n (MW d h σ) lv pc (.int x :: .int i :: .ref (h 10) :: st) := zr_iast 10 rfl rfl pc' C hd hp hf (fun hf => K (zsa σ 10 i x) hf)
theorem ml_11 {l : Launch} {d : zD} {F : zF} {k n : Nat} {lv : List (Option Value)} {pc : Nat} {st : List Value} {own : String} {cc : ByteArray} {nL fr lo : Nat} {h : Nat → Nat} {σ : zS} {i : Int32} {β : Type} {X : Option β} {out : β} (pc' : Nat) (C : zOk d F own cc nL fr lo) (hd : decode cc pc = .ok (.iaload, 1)) (hp : pc + 1 = pc') (hf : zin i 8 X = some out) (K : X = some out → V l d F k n (MW d h σ) lv pc' (.int (σ.2 11 i.toNatClampNeg) :: st)) : V l d F k n (MW d h σ) lv pc (.int i :: .ref (h 11) :: st) := zr_iald 11 rfl pc' C hd hp hf K
theorem ms_11 {l : Launch} {d : zD} {F : zF} {k n : Nat} {lv : List (Option Value)} {pc : Nat} {st : List Value} {own : String} {cc : ByteArray} {nL fr lo : Nat} {h : Nat → Nat} {σ : zS} {i x : Int32} {β : Type} {f : zS → Option β} {out : β} (pc' : Nat) (C : zOk d F own cc nL fr lo) (hd : decode cc pc = .ok (.iastore, 1)) (hp : pc + 1 = pc') (hf : zin i 8 (zlt (zsa σ 11 i x) f) = some out) (K : ∀ σ', f σ' = some out → V l d F k n (MW d h σ') lv pc' st) : V l d F k n (MW d h σ) lv pc (.int x :: .int i :: .ref (h 11) :: st) := zr_iast 11 rfl rfl pc' C hd hp hf (fun hf => K (zsa σ 11 i x) hf)
theorem ml_12 {l : Launch} {d : zD} {F : zF} {k n : Nat} {lv : List (Option Value)} {pc : Nat} {st : List Value} {own : String} {cc : ByteArray} {nL fr lo : Nat} {h : Nat → Nat} {σ : zS} {i : Int32} {β : Type} {X : Option β} {out : β} (pc' : Nat) (C : zOk d F own cc nL fr lo) (hd : decode cc pc = .ok (.iaload, 1)) (hp : pc + 1 = pc') (hf : zin i 8 X = some out) (K : X = some out → V l d F k n (MW d h σ) lv pc' (.int (σ.2 12 i.toNatClampNeg) :: st)) : V l d F k n (MW d h σ) lv pc (.int i :: .ref (h 12) :: st) := zr_iald 12 rfl pc' C hd hp hf K
theorem ms_12 {l : Launch} {d : zD} {F : zF} {k n : Nat} {lv : List (Option Value)} {pc : Nat} {st : List Value} {own : String} {cc : ByteArray} {nL fr lo : Nat} {h : Nat → Nat} {σ : zS} {i x : Int32} {β : Type} {f : zS → Option β} {out : β} (pc' : Nat) (C : zOk d F own cc nL fr lo) (hd : decode cc pc = .ok (.iastore, 1)) (hp : pc + 1 = pc') (hf : zin i 8 (zlt (zsa σ 12 i x) f) = some out) (K : ∀ σ', f σ' = some out → V l d F k n (MW d h σ') lv pc' st) : V l d F k n (MW d h σ) lv pc (.int x :: .int i :: .ref (h 12) :: st) := zr_iast 12 rfl rfl pc' C hd hp hf (fun hf => K (zsa σ 12 i x) hf)
theorem ml_13 {l : Launch} {d : zD} {F : zF} {k n : Nat} {lv : List (Option Value)} {pc : Nat} {st : List Value} {own : String} {cc : ByteArray} {nL fr lo : Nat} {h : Nat → Nat} {σ : zS} {i : Int32} {β : Type} {X : Option β} {out : β} (pc' : Nat) (C : zOk d F own cc nL fr lo) (hd : decode cc pc = .ok (.iaload, 1)) (hp : pc + 1 = pc') (hf : zin i 10 X = some out) (K : X = some out → V l d F k n (MW d h σ) lv pc' (.int (σ.2 13 i.toNatClampNeg) :: st)) : V l d F k n (MW d h σ) lv pc (.int i :: .ref (h 13) :: st) := zr_iald 13 rfl pc' C hd hp hf K
theorem ms_13 {l : Launch} {d : zD} {F : zF} {k n : Nat} {lv : List (Option Value)} {pc : Nat} {st : List Value} {own : String} {cc : ByteArray} {nL fr lo : Nat} {h : Nat → Nat} {σ : zS} {i x : Int32} {β : Type} {f : zS → Option β} {out : β} (pc' : Nat) (C : zOk d F own cc nL fr lo) (hd : decode cc pc = .ok (.iastore, 1)) (hp : pc + 1 = pc') (hf : zin i 10 (zlt (zsa σ 13 i x) f) = some out) (K : ∀ σ', f σ' = some out → V l d F k n (MW d h σ') lv pc' st) : V l d F k n (MW d h σ) lv pc (.int x :: .int i :: .ref (h 13) :: st) := zr_iast 13 rfl rfl pc' C hd hp hf (fun hf => K (zsa σ 13 i x) hf)
theorem ml_14 {l : Launch} {d : zD} {F : zF} {k n : Nat} {lv : List (Option Value)} {pc : Nat} {st : List Value} {own : String} {cc : ByteArray} {nL fr lo : Nat} {h : Nat → Nat} {σ : zS} {i : Int32} {β : Type} {X : Option β} {out : β} (pc' : Nat) (C : zOk d F own cc nL fr lo) (hd : decode cc pc = .ok (.iaload, 1)) (hp : pc + 1 = pc') (hf : zin i 160 X = some out) (K : X = some out → V l d F k n (MW d h σ) lv pc' (.int (σ.2 14 i.toNatClampNeg) :: st)) : V l d F k n (MW d h σ) lv pc (.int i :: .ref (h 14) :: st) := zr_iald 14 rfl pc' C hd hp hf K
theorem ms_14 {l : Launch} {d : zD} {F : zF} {k n : Nat} {lv : List (Option Value)} {pc : Nat} {st : List Value} {own : String} {cc : ByteArray} {nL fr lo : Nat} {h : Nat → Nat} {σ : zS} {i x : Int32} {β : Type} {f : zS → Option β} {out : β} (pc' : Nat) (C : zOk d F own cc nL fr lo) (hd : decode cc pc = .ok (.iastore, 1)) (hp : pc + 1 = pc') (hf : zin i 160 (zlt (zsa σ 14 i x) f) = some out) (K : ∀ σ', f σ' = some out → V l d F k n (MW d h σ') lv pc' st) : V l d F k n (MW d h σ) lv pc (.int x :: .int i :: .ref (h 14) :: st) := zr_iast 14 rfl rfl pc' C hd hp hf (fun hf => K (zsa σ 14 i x) hf)
theorem ml_15 {l : Launch} {d : zD} {F : zF} {k n : Nat} {lv : List (Option Value)} {pc : Nat} {st : List Value} {own : String} {cc : ByteArray} {nL fr lo : Nat} {h : Nat → Nat} {σ : zS} {i : Int32} {β : Type} {X : Option β} {out : β} (pc' : Nat) (C : zOk d F own cc nL fr lo) (hd : decode cc pc = .ok (.iaload, 1)) (hp : pc + 1 = pc') (hf : zin i 1200 X = some out) (K : X = some out → V l d F k n (MW d h σ) lv pc' (.int (σ.2 15 i.toNatClampNeg) :: st)) : V l d F k n (MW d h σ) lv pc (.int i :: .ref (h 15) :: st) := zr_iald 15 rfl pc' C hd hp hf K
theorem ms_15 {l : Launch} {d : zD} {F : zF} {k n : Nat} {lv : List (Option Value)} {pc : Nat} {st : List Value} {own : String} {cc : ByteArray} {nL fr lo : Nat} {h : Nat → Nat} {σ : zS} {i x : Int32} {β : Type} {f : zS → Option β} {out : β} (pc' : Nat) (C : zOk d F own cc nL fr lo) (hd : decode cc pc = .ok (.iastore, 1)) (hp : pc + 1 = pc') (hf : zin i 1200 (zlt (zsa σ 15 i x) f) = some out) (K : ∀ σ', f σ' = some out → V l d F k n (MW d h σ') lv pc' st) : V l d F k n (MW d h σ) lv pc (.int x :: .int i :: .ref (h 15) :: st) := zr_iast 15 rfl rfl pc' C hd hp hf (fun hf => K (zsa σ 15 i x) hf)
theorem ml_16 {l : Launch} {d : zD} {F : zF} {k n : Nat} {lv : List (Option Value)} {pc : Nat} {st : List Value} {own : String} {cc : ByteArray} {nL fr lo : Nat} {h : Nat → Nat} {σ : zS} {i : Int32} {β : Type} {X : Option β} {out : β} (pc' : Nat) (C : zOk d F own cc nL fr lo) (hd : decode cc pc = .ok (.iaload, 1)) (hp : pc + 1 = pc') (hf : zin i 24 X = some out) (K : X = some out → V l d F k n (MW d h σ) lv pc' (.int (σ.2 16 i.toNatClampNeg) :: st)) : V l d F k n (MW d h σ) lv pc (.int i :: .ref (h 16) :: st) := zr_iald 16 rfl pc' C hd hp hf K
theorem ms_16 {l : Launch} {d : zD} {F : zF} {k n : Nat} {lv : List (Option Value)} {pc : Nat} {st : List Value} {own : String} {cc : ByteArray} {nL fr lo : Nat} {h : Nat → Nat} {σ : zS} {i x : Int32} {β : Type} {f : zS → Option β} {out : β} (pc' : Nat) (C : zOk d F own cc nL fr lo) (hd : decode cc pc = .ok (.iastore, 1)) (hp : pc + 1 = pc') (hf : zin i 24 (zlt (zsa σ 16 i x) f) = some out) (K : ∀ σ', f σ' = some out → V l d F k n (MW d h σ') lv pc' st) : V l d F k n (MW d h σ) lv pc (.int x :: .int i :: .ref (h 16) :: st) := zr_iast 16 rfl rfl pc' C hd hp hf (fun hf => K (zsa σ 16 i x) hf)
theorem ml_17 {l : Launch} {d : zD} {F : zF} {k n : Nat} {lv : List (Option Value)} {pc : Nat} {st : List Value} {own : String} {cc : ByteArray} {nL fr lo : Nat} {h : Nat → Nat} {σ : zS} {i : Int32} {β : Type} {X : Option β} {out : β} (pc' : Nat) (C : zOk d F own cc nL fr lo) (hd : decode cc pc = .ok (.iaload, 1)) (hp : pc + 1 = pc') (hf : zin i 20 X = some out) (K : X = some out → V l d F k n (MW d h σ) lv pc' (.int (σ.2 17 i.toNatClampNeg) :: st)) : V l d F k n (MW d h σ) lv pc (.int i :: .ref (h 17) :: st) := zr_iald 17 rfl pc' C hd hp hf K
theorem ms_17 {l : Launch} {d : zD} {F : zF} {k n : Nat} {lv : List (Option Value)} {pc : Nat} {st : List Value} {own : String} {cc : ByteArray} {nL fr lo : Nat} {h : Nat → Nat} {σ : zS} {i x : Int32} {β : Type} {f : zS → Option β} {out : β} (pc' : Nat) (C : zOk d F own cc nL fr lo) (hd : decode cc pc = .ok (.iastore, 1)) (hp : pc + 1 = pc') (hf : zin i 20 (zlt (zsa σ 17 i x) f) = some out) (K : ∀ σ', f σ' = some out → V l d F k n (MW d h σ') lv pc' st) : V l d F k n (MW d h σ) lv pc (.int x :: .int i :: .ref (h 17) :: st) := zr_iast 17 rfl rfl pc' C hd hp hf (fun hf => K (zsa σ 17 i x) hf)
theorem ml_18 {l : Launch} {d : zD} {F : zF} {k n : Nat} {lv : List (Option Value)} {pc : Nat} {st : List Value} {own : String} {cc : ByteArray} {nL fr lo : Nat} {h : Nat → Nat} {σ : zS} {i : Int32} {β : Type} {X : Option β} {out : β} (pc' : Nat) (C : zOk d F own cc nL fr lo) (hd : decode cc pc = .ok (.iaload, 1)) (hp : pc + 1 = pc') (hf : zin i 8 X = some out) (K : X = some out → V l d F k n (MW d h σ) lv pc' (.int (σ.2 18 i.toNatClampNeg) :: st)) : V l d F k n (MW d h σ) lv pc (.int i :: .ref (h 18) :: st) := zr_iald 18 rfl pc' C hd hp hf K
theorem ms_18 {l : Launch} {d : zD} {F : zF} {k n : Nat} {lv : List (Option Value)} {pc : Nat} {st : List Value} {own : String} {cc : ByteArray} {nL fr lo : Nat} {h : Nat → Nat} {σ : zS} {i x : Int32} {β : Type} {f : zS → Option β} {out : β} (pc' : Nat) (C : zOk d F own cc nL fr lo) (hd : decode cc pc = .ok (.iastore, 1)) (hp : pc + 1 = pc') (hf : zin i 8 (zlt (zsa σ 18 i x) f) = some out) (K : ∀ σ', f σ' = some out → V l d F k n (MW d h σ') lv pc' st) : V l d F k n (MW d h σ) lv pc (.int x :: .int i :: .ref (h 18) :: st) := zr_iast 18 rfl rfl pc' C hd hp hf (fun hf => K (zsa σ 18 i x) hf)
theorem ml_19 {l : Launch} {d : zD} {F : zF} {k n : Nat} {lv : List (Option Value)} {pc : Nat} {st : List Value} {own : String} {cc : ByteArray} {nL fr lo : Nat} {h : Nat → Nat} {σ : zS} {i : Int32} {β : Type} {X : Option β} {out : β} (pc' : Nat) (C : zOk d F own cc nL fr lo) (hd : decode cc pc = .ok (.iaload, 1)) (hp : pc + 1 = pc') (hf : zin i 4 X = some out) (K : X = some out → V l d F k n (MW d h σ) lv pc' (.int (σ.2 19 i.toNatClampNeg) :: st)) : V l d F k n (MW d h σ) lv pc (.int i :: .ref (h 19) :: st) := zr_iald 19 rfl pc' C hd hp hf K
theorem ms_19 {l : Launch} {d : zD} {F : zF} {k n : Nat} {lv : List (Option Value)} {pc : Nat} {st : List Value} {own : String} {cc : ByteArray} {nL fr lo : Nat} {h : Nat → Nat} {σ : zS} {i x : Int32} {β : Type} {f : zS → Option β} {out : β} (pc' : Nat) (C : zOk d F own cc nL fr lo) (hd : decode cc pc = .ok (.iastore, 1)) (hp : pc + 1 = pc') (hf : zin i 4 (zlt (zsa σ 19 i x) f) = some out) (K : ∀ σ', f σ' = some out → V l d F k n (MW d h σ') lv pc' st) : V l d F k n (MW d h σ) lv pc (.int x :: .int i :: .ref (h 19) :: st) := zr_iast 19 rfl rfl pc' C hd hp hf (fun hf => K (zsa σ 19 i x) hf)
theorem ml_20 {l : Launch} {d : zD} {F : zF} {k n : Nat} {lv : List (Option Value)} {pc : Nat} {st : List Value} {own : String} {cc : ByteArray} {nL fr lo : Nat} {h : Nat → Nat} {σ : zS} {i : Int32} {β : Type} {X : Option β} {out : β} (pc' : Nat) (C : zOk d F own cc nL fr lo) (hd : decode cc pc = .ok (.iaload, 1)) (hp : pc + 1 = pc') (hf : zin i 4 X = some out) (K : X = some out → V l d F k n (MW d h σ) lv pc' (.int (σ.2 20 i.toNatClampNeg) :: st)) : V l d F k n (MW d h σ) lv pc (.int i :: .ref (h 20) :: st) := zr_iald 20 rfl pc' C hd hp hf K
theorem ms_20 {l : Launch} {d : zD} {F : zF} {k n : Nat} {lv : List (Option Value)} {pc : Nat} {st : List Value} {own : String} {cc : ByteArray} {nL fr lo : Nat} {h : Nat → Nat} {σ : zS} {i x : Int32} {β : Type} {f : zS → Option β} {out : β} (pc' : Nat) (C : zOk d F own cc nL fr lo) (hd : decode cc pc = .ok (.iastore, 1)) (hp : pc + 1 = pc') (hf : zin i 4 (zlt (zsa σ 20 i x) f) = some out) (K : ∀ σ', f σ' = some out → V l d F k n (MW d h σ') lv pc' st) : V l d F k n (MW d h σ) lv pc (.int x :: .int i :: .ref (h 20) :: st) := zr_iast 20 rfl rfl pc' C hd hp hf (fun hf => K (zsa σ 20 i x) hf)
theorem ml_21 {l : Launch} {d : zD} {F : zF} {k n : Nat} {lv : List (Option Value)} {pc : Nat} {st : List Value} {own : String} {cc : ByteArray} {nL fr lo : Nat} {h : Nat → Nat} {σ : zS} {i : Int32} {β : Type} {X : Option β} {out : β} (pc' : Nat) (C : zOk d F own cc nL fr lo) (hd : decode cc pc = .ok (.iaload, 1)) (hp : pc + 1 = pc') (hf : zin i 160 X = some out) (K : X = some out → V l d F k n (MW d h σ) lv pc' (.int (σ.2 21 i.toNatClampNeg) :: st)) : V l d F k n (MW d h σ) lv pc (.int i :: .ref (h 21) :: st) := zr_iald 21 rfl pc' C hd hp hf K
theorem ms_21 {l : Launch} {d : zD} {F : zF} {k n : Nat} {lv : List (Option Value)} {pc : Nat} {st : List Value} {own : String} {cc : ByteArray} {nL fr lo : Nat} {h : Nat → Nat} {σ : zS} {i x : Int32} {β : Type} {f : zS → Option β} {out : β} (pc' : Nat) (C : zOk d F own cc nL fr lo) (hd : decode cc pc = .ok (.iastore, 1)) (hp : pc + 1 = pc') (hf : zin i 160 (zlt (zsa σ 21 i x) f) = some out) (K : ∀ σ', f σ' = some out → V l d F k n (MW d h σ') lv pc' st) : V l d F k n (MW d h σ) lv pc (.int x :: .int i :: .ref (h 21) :: st) := zr_iast 21 rfl rfl pc' C hd hp hf (fun hf => K (zsa σ 21 i x) hf)
theorem ml_22 {l : Launch} {d : zD} {F : zF} {k n : Nat} {lv : List (Option Value)} {pc : Nat} {st : List Value} {own : String} {cc : ByteArray} {nL fr lo : Nat} {h : Nat → Nat} {σ : zS} {i : Int32} {β : Type} {X : Option β} {out : β} (pc' : Nat) (C : zOk d F own cc nL fr lo) (hd : decode cc pc = .ok (.laload, 1)) (hp : pc + 1 = pc') (hf : zin i 11 X = some out) (K : X = some out → V l d F k n (MW d h σ) lv pc' (.long (zWords i.toNatClampNeg) :: st)) : V l d F k n (MW d h σ) lv pc (.int i :: .ref (h 22) :: st) := zr_lald 22 rfl pc' C hd hp hf K
theorem ml_23 {l : Launch} {d : zD} {F : zF} {k n : Nat} {lv : List (Option Value)} {pc : Nat} {st : List Value} {own : String} {cc : ByteArray} {nL fr lo : Nat} {h : Nat → Nat} {σ : zS} {i : Int32} {β : Type} {X : Option β} {out : β} (pc' : Nat) (C : zOk d F own cc nL fr lo) (hd : decode cc pc = .ok (.iaload, 1)) (hp : pc + 1 = pc') (hf : zin i 200 X = some out) (K : X = some out → V l d F k n (MW d h σ) lv pc' (.int (σ.2 23 i.toNatClampNeg) :: st)) : V l d F k n (MW d h σ) lv pc (.int i :: .ref (h 23) :: st) := zr_iald 23 rfl pc' C hd hp hf K
theorem ms_23 {l : Launch} {d : zD} {F : zF} {k n : Nat} {lv : List (Option Value)} {pc : Nat} {st : List Value} {own : String} {cc : ByteArray} {nL fr lo : Nat} {h : Nat → Nat} {σ : zS} {i x : Int32} {β : Type} {f : zS → Option β} {out : β} (pc' : Nat) (C : zOk d F own cc nL fr lo) (hd : decode cc pc = .ok (.iastore, 1)) (hp : pc + 1 = pc') (hf : zin i 200 (zlt (zsa σ 23 i x) f) = some out) (K : ∀ σ', f σ' = some out → V l d F k n (MW d h σ') lv pc' st) : V l d F k n (MW d h σ) lv pc (.int x :: .int i :: .ref (h 23) :: st) := zr_iast 23 rfl rfl pc' C hd hp hf (fun hf => K (zsa σ 23 i x) hf)
theorem ml_24 {l : Launch} {d : zD} {F : zF} {k n : Nat} {lv : List (Option Value)} {pc : Nat} {st : List Value} {own : String} {cc : ByteArray} {nL fr lo : Nat} {h : Nat → Nat} {σ : zS} {i : Int32} {β : Type} {X : Option β} {out : β} (pc' : Nat) (C : zOk d F own cc nL fr lo) (hd : decode cc pc = .ok (.iaload, 1)) (hp : pc + 1 = pc') (hf : zin i 200 X = some out) (K : X = some out → V l d F k n (MW d h σ) lv pc' (.int (σ.2 24 i.toNatClampNeg) :: st)) : V l d F k n (MW d h σ) lv pc (.int i :: .ref (h 24) :: st) := zr_iald 24 rfl pc' C hd hp hf K
theorem ms_24 {l : Launch} {d : zD} {F : zF} {k n : Nat} {lv : List (Option Value)} {pc : Nat} {st : List Value} {own : String} {cc : ByteArray} {nL fr lo : Nat} {h : Nat → Nat} {σ : zS} {i x : Int32} {β : Type} {f : zS → Option β} {out : β} (pc' : Nat) (C : zOk d F own cc nL fr lo) (hd : decode cc pc = .ok (.iastore, 1)) (hp : pc + 1 = pc') (hf : zin i 200 (zlt (zsa σ 24 i x) f) = some out) (K : ∀ σ', f σ' = some out → V l d F k n (MW d h σ') lv pc' st) : V l d F k n (MW d h σ) lv pc (.int x :: .int i :: .ref (h 24) :: st) := zr_iast 24 rfl rfl pc' C hd hp hf (fun hf => K (zsa σ 24 i x) hf)
theorem ml_25 {l : Launch} {d : zD} {F : zF} {k n : Nat} {lv : List (Option Value)} {pc : Nat} {st : List Value} {own : String} {cc : ByteArray} {nL fr lo : Nat} {h : Nat → Nat} {σ : zS} {i : Int32} {β : Type} {X : Option β} {out : β} (pc' : Nat) (C : zOk d F own cc nL fr lo) (hd : decode cc pc = .ok (.iaload, 1)) (hp : pc + 1 = pc') (hf : zin i 6 X = some out) (K : X = some out → V l d F k n (MW d h σ) lv pc' (.int (σ.2 25 i.toNatClampNeg) :: st)) : V l d F k n (MW d h σ) lv pc (.int i :: .ref (h 25) :: st) := zr_iald 25 rfl pc' C hd hp hf K
theorem ms_25 {l : Launch} {d : zD} {F : zF} {k n : Nat} {lv : List (Option Value)} {pc : Nat} {st : List Value} {own : String} {cc : ByteArray} {nL fr lo : Nat} {h : Nat → Nat} {σ : zS} {i x : Int32} {β : Type} {f : zS → Option β} {out : β} (pc' : Nat) (C : zOk d F own cc nL fr lo) (hd : decode cc pc = .ok (.iastore, 1)) (hp : pc + 1 = pc') (hf : zin i 6 (zlt (zsa σ 25 i x) f) = some out) (K : ∀ σ', f σ' = some out → V l d F k n (MW d h σ') lv pc' st) : V l d F k n (MW d h σ) lv pc (.int x :: .int i :: .ref (h 25) :: st) := zr_iast 25 rfl rfl pc' C hd hp hf (fun hf => K (zsa σ 25 i x) hf)
theorem ml_26 {l : Launch} {d : zD} {F : zF} {k n : Nat} {lv : List (Option Value)} {pc : Nat} {st : List Value} {own : String} {cc : ByteArray} {nL fr lo : Nat} {h : Nat → Nat} {σ : zS} {i : Int32} {β : Type} {X : Option β} {out : β} (pc' : Nat) (C : zOk d F own cc nL fr lo) (hd : decode cc pc = .ok (.baload, 1)) (hp : pc + 1 = pc') (hf : zin i 1600 X = some out) (K : X = some out → V l d F k n (MW d h σ) lv pc' (.int (σ.2 26 i.toNatClampNeg) :: st)) : V l d F k n (MW d h σ) lv pc (.int i :: .ref (h 26) :: st) := zr_zald 26 rfl pc' C hd hp hf K
theorem ms_26 {l : Launch} {d : zD} {F : zF} {k n : Nat} {lv : List (Option Value)} {pc : Nat} {st : List Value} {own : String} {cc : ByteArray} {nL fr lo : Nat} {h : Nat → Nat} {σ : zS} {i x : Int32} {β : Type} {f : zS → Option β} {out : β} (pc' : Nat) (C : zOk d F own cc nL fr lo) (hd : decode cc pc = .ok (.bastore, 1)) (hp : pc + 1 = pc') (hf : zin i 1600 (zlt (zsa σ 26 i (vp_nar .boolean x)) f) = some out) (K : ∀ σ', f σ' = some out → V l d F k n (MW d h σ') lv pc' st) : V l d F k n (MW d h σ) lv pc (.int x :: .int i :: .ref (h 26) :: st) := zr_zast 26 rfl rfl pc' C hd hp hf (fun hf => K (zsa σ 26 i (vp_nar .boolean x)) hf)
theorem ml_27 {l : Launch} {d : zD} {F : zF} {k n : Nat} {lv : List (Option Value)} {pc : Nat} {st : List Value} {own : String} {cc : ByteArray} {nL fr lo : Nat} {h : Nat → Nat} {σ : zS} {i : Int32} {β : Type} {X : Option β} {out : β} (pc' : Nat) (C : zOk d F own cc nL fr lo) (hd : decode cc pc = .ok (.baload, 1)) (hp : pc + 1 = pc') (hf : zin i 1600 X = some out) (K : X = some out → V l d F k n (MW d h σ) lv pc' (.int (σ.2 27 i.toNatClampNeg) :: st)) : V l d F k n (MW d h σ) lv pc (.int i :: .ref (h 27) :: st) := zr_zald 27 rfl pc' C hd hp hf K
theorem ms_27 {l : Launch} {d : zD} {F : zF} {k n : Nat} {lv : List (Option Value)} {pc : Nat} {st : List Value} {own : String} {cc : ByteArray} {nL fr lo : Nat} {h : Nat → Nat} {σ : zS} {i x : Int32} {β : Type} {f : zS → Option β} {out : β} (pc' : Nat) (C : zOk d F own cc nL fr lo) (hd : decode cc pc = .ok (.bastore, 1)) (hp : pc + 1 = pc') (hf : zin i 1600 (zlt (zsa σ 27 i (vp_nar .boolean x)) f) = some out) (K : ∀ σ', f σ' = some out → V l d F k n (MW d h σ') lv pc' st) : V l d F k n (MW d h σ) lv pc (.int x :: .int i :: .ref (h 27) :: st) := zr_zast 27 rfl rfl pc' C hd hp hf (fun hf => K (zsa σ 27 i (vp_nar .boolean x)) hf)
theorem ml_28 {l : Launch} {d : zD} {F : zF} {k n : Nat} {lv : List (Option Value)} {pc : Nat} {st : List Value} {own : String} {cc : ByteArray} {nL fr lo : Nat} {h : Nat → Nat} {σ : zS} {i : Int32} {β : Type} {X : Option β} {out : β} (pc' : Nat) (C : zOk d F own cc nL fr lo) (hd : decode cc pc = .ok (.iaload, 1)) (hp : pc + 1 = pc') (hf : zin i 1600 X = some out) (K : X = some out → V l d F k n (MW d h σ) lv pc' (.int (σ.2 28 i.toNatClampNeg) :: st)) : V l d F k n (MW d h σ) lv pc (.int i :: .ref (h 28) :: st) := zr_iald 28 rfl pc' C hd hp hf K
theorem ms_28 {l : Launch} {d : zD} {F : zF} {k n : Nat} {lv : List (Option Value)} {pc : Nat} {st : List Value} {own : String} {cc : ByteArray} {nL fr lo : Nat} {h : Nat → Nat} {σ : zS} {i x : Int32} {β : Type} {f : zS → Option β} {out : β} (pc' : Nat) (C : zOk d F own cc nL fr lo) (hd : decode cc pc = .ok (.iastore, 1)) (hp : pc + 1 = pc') (hf : zin i 1600 (zlt (zsa σ 28 i x) f) = some out) (K : ∀ σ', f σ' = some out → V l d F k n (MW d h σ') lv pc' st) : V l d F k n (MW d h σ) lv pc (.int x :: .int i :: .ref (h 28) :: st) := zr_iast 28 rfl rfl pc' C hd hp hf (fun hf => K (zsa σ 28 i x) hf)
theorem ml_29 {l : Launch} {d : zD} {F : zF} {k n : Nat} {lv : List (Option Value)} {pc : Nat} {st : List Value} {own : String} {cc : ByteArray} {nL fr lo : Nat} {h : Nat → Nat} {σ : zS} {i : Int32} {β : Type} {X : Option β} {out : β} (pc' : Nat) (C : zOk d F own cc nL fr lo) (hd : decode cc pc = .ok (.iaload, 1)) (hp : pc + 1 = pc') (hf : zin i 1600 X = some out) (K : X = some out → V l d F k n (MW d h σ) lv pc' (.int (σ.2 29 i.toNatClampNeg) :: st)) : V l d F k n (MW d h σ) lv pc (.int i :: .ref (h 29) :: st) := zr_iald 29 rfl pc' C hd hp hf K
theorem ms_29 {l : Launch} {d : zD} {F : zF} {k n : Nat} {lv : List (Option Value)} {pc : Nat} {st : List Value} {own : String} {cc : ByteArray} {nL fr lo : Nat} {h : Nat → Nat} {σ : zS} {i x : Int32} {β : Type} {f : zS → Option β} {out : β} (pc' : Nat) (C : zOk d F own cc nL fr lo) (hd : decode cc pc = .ok (.iastore, 1)) (hp : pc + 1 = pc') (hf : zin i 1600 (zlt (zsa σ 29 i x) f) = some out) (K : ∀ σ', f σ' = some out → V l d F k n (MW d h σ') lv pc' st) : V l d F k n (MW d h σ) lv pc (.int x :: .int i :: .ref (h 29) :: st) := zr_iast 29 rfl rfl pc' C hd hp hf (fun hf => K (zsa σ 29 i x) hf)
theorem ml_30 {l : Launch} {d : zD} {F : zF} {k n : Nat} {lv : List (Option Value)} {pc : Nat} {st : List Value} {own : String} {cc : ByteArray} {nL fr lo : Nat} {h : Nat → Nat} {σ : zS} {i : Int32} {β : Type} {X : Option β} {out : β} (pc' : Nat) (C : zOk d F own cc nL fr lo) (hd : decode cc pc = .ok (.baload, 1)) (hp : pc + 1 = pc') (hf : zin i 1600 X = some out) (K : X = some out → V l d F k n (MW d h σ) lv pc' (.int (σ.2 30 i.toNatClampNeg) :: st)) : V l d F k n (MW d h σ) lv pc (.int i :: .ref (h 30) :: st) := zr_zald 30 rfl pc' C hd hp hf K
theorem ms_30 {l : Launch} {d : zD} {F : zF} {k n : Nat} {lv : List (Option Value)} {pc : Nat} {st : List Value} {own : String} {cc : ByteArray} {nL fr lo : Nat} {h : Nat → Nat} {σ : zS} {i x : Int32} {β : Type} {f : zS → Option β} {out : β} (pc' : Nat) (C : zOk d F own cc nL fr lo) (hd : decode cc pc = .ok (.bastore, 1)) (hp : pc + 1 = pc') (hf : zin i 1600 (zlt (zsa σ 30 i (vp_nar .boolean x)) f) = some out) (K : ∀ σ', f σ' = some out → V l d F k n (MW d h σ') lv pc' st) : V l d F k n (MW d h σ) lv pc (.int x :: .int i :: .ref (h 30) :: st) := zr_zast 30 rfl rfl pc' C hd hp hf (fun hf => K (zsa σ 30 i (vp_nar .boolean x)) hf)
theorem ml_31 {l : Launch} {d : zD} {F : zF} {k n : Nat} {lv : List (Option Value)} {pc : Nat} {st : List Value} {own : String} {cc : ByteArray} {nL fr lo : Nat} {h : Nat → Nat} {σ : zS} {i : Int32} {β : Type} {X : Option β} {out : β} (pc' : Nat) (C : zOk d F own cc nL fr lo) (hd : decode cc pc = .ok (.iaload, 1)) (hp : pc + 1 = pc') (hf : zin i 1600 X = some out) (K : X = some out → V l d F k n (MW d h σ) lv pc' (.int (σ.2 31 i.toNatClampNeg) :: st)) : V l d F k n (MW d h σ) lv pc (.int i :: .ref (h 31) :: st) := zr_iald 31 rfl pc' C hd hp hf K
theorem ms_31 {l : Launch} {d : zD} {F : zF} {k n : Nat} {lv : List (Option Value)} {pc : Nat} {st : List Value} {own : String} {cc : ByteArray} {nL fr lo : Nat} {h : Nat → Nat} {σ : zS} {i x : Int32} {β : Type} {f : zS → Option β} {out : β} (pc' : Nat) (C : zOk d F own cc nL fr lo) (hd : decode cc pc = .ok (.iastore, 1)) (hp : pc + 1 = pc') (hf : zin i 1600 (zlt (zsa σ 31 i x) f) = some out) (K : ∀ σ', f σ' = some out → V l d F k n (MW d h σ') lv pc' st) : V l d F k n (MW d h σ) lv pc (.int x :: .int i :: .ref (h 31) :: st) := zr_iast 31 rfl rfl pc' C hd hp hf (fun hf => K (zsa σ 31 i x) hf)
end
section
/-! StepsBeyondModel.in(III)Z -/
def f_M_in (p0 : Int32) (p1 : Int32) (p2 : Int32) (σ : zS) : Option (Int32 × zS) :=
  (if p0 < p1 then
  some (0, σ)
  else
  (if p2 < p0 then
  some (0, σ)
  else
  some (1, σ)))
set_option maxRecDepth 4000 in
theorem m_M_in {l : Launch} {d : zD} {h : Nat → Nat} {out : Int32 × zS} {σ : zS} {p0 : Int32} {p1 : Int32} {p2 : Int32} (hf : f_M_in p0 p1 p2 σ = some out) : zM l yX11_in cX11_in 3 (some .boolean) 0 0 d [.int p0, .int p1, .int p2] (MW d h σ) (MW d h out.2) (some (.int out.1)) := by
  refine zM_of [some (.int p0), some (.int p1), some (.int p2)] (by decide +kernel) rfl (Nat.le_of_ble_eq_true rfl) (fun F C T => ?_)
  unfold f_M_in at hf
  refine zr_iload_n 0 1 C (by decide +kernel) rfl rfl ?_
  refine zr_iload_n 1 2 C (by decide +kernel) rfl rfl ?_
  refine zr_icmp_lt (off := 12) 14 5 C (by decide +kernel) (by decide) rfl hf (fun hf => ?_) (fun hf => ?_)
  · refine zr_iconst (v := 0) 0 15 C (by decide +kernel) rfl rfl ?_
    cases hf
    exact zr_zret C (by decide +kernel) rfl T
  · refine zr_iload_n 0 6 C (by decide +kernel) rfl rfl ?_
    refine zr_iload_n 2 7 C (by decide +kernel) rfl rfl ?_
    refine zr_icmp_gt (off := 7) 14 10 C (by decide +kernel) (by decide) rfl hf (fun hf => ?_) (fun hf => ?_)
    · refine zr_iconst (v := 0) 0 15 C (by decide +kernel) rfl rfl ?_
      cases hf
      exact zr_zret C (by decide +kernel) rfl T
    · refine zr_iconst (v := 1) 1 11 C (by decide +kernel) rfl rfl ?_
      refine zr_goto (off := 4) 15 C (by decide +kernel) (by decide) ?_
      cases hf
      exact zr_zret C (by decide +kernel) rfl T
theorem y_M_in : zY yX11_in cX11_in 3 (some .boolean) 3 := ⟨q_1183, q_90, by decide +kernel, by decide +kernel, by decide +kernel⟩
theorem k_M_in {l : Launch} {d : zD} {F : zF} {h : Nat → Nat} {σ : zS} {lv : List (Option Value)} {pc : Nat} {own : String} {cc : ByteArray} {nL fr lo idx : Nat} {rest : List Value} {β : Type} {kf : Int32 → zS → Option β} {o2 : β} {p0 : Int32} {p1 : Int32} {p2 : Int32} (pc' : Nat) (C : zOk d F own cc nL fr lo) (hd : decode cc pc = .ok (.invokestatic idx, 3)) (hp : pc + 3 = pc') (hq : Cond.methodLink own idx yX11_in ∈ zW) (hm : 0 + 1 ≤ fr ∧ 8 + (3 + 11) + 0 ≤ lo) (hr : (rest.map fun v => v.category).sum ≤ 8) (hf : zbd (f_M_in p0 p1 p2 σ) kf = some o2) (K : ∀ (r : Int32) (σ' : zS), kf r σ' = some o2 → V l d F 0 0 (MW d h σ') lv pc' (.int r :: rest)) : V l d F 0 0 (MW d h σ) lv pc (.int p2 :: .int p1 :: .int p0 :: rest) := by
  obtain ⟨q, h1, h2⟩ := zbd_some hf
  exact zr_callS y_M_in q_1182 (As := [.int p0, .int p1, .int p2]) (m_M_in h1) rfl rfl pc' C hd hp hq hm hr (K _ _ h2)
/-! StepsBeyondModel.isPlace(I)Z -/
def f_M_isPlace (p0 : Int32) (σ : zS) : Option (Int32 × zS) :=
  zbd (f_M_in p0 0 1599 σ) fun r2 σ1 =>
  zbo r2 (some (r2, σ1))
set_option maxRecDepth 4000 in
theorem m_M_isPlace {l : Launch} {d : zD} {h : Nat → Nat} {out : Int32 × zS} {σ : zS} {p0 : Int32} (hf : f_M_isPlace p0 σ = some out) : zM l yX11_isPlace cX11_isPlace 1 (some .boolean) 1 22 d [.int p0] (MW d h σ) (MW d h out.2) (some (.int out.1)) := by
  refine zM_of [some (.int p0)] (by decide +kernel) rfl (Nat.le_of_ble_eq_true rfl) (fun F C T => ?_)
  unfold f_M_isPlace at hf
  refine zr_iload_n 0 1 C (by decide +kernel) rfl rfl ?_
  refine zr_iconst (v := 0) 0 2 C (by decide +kernel) rfl rfl ?_
  refine zr_sipush (v := 1599) 1599 5 C (by decide +kernel) rfl rfl ?_
  refine k_M_in (idx := 139) 8 C (by decide +kernel) rfl q_1181 (zb2 rfl rfl) (Nat.le_of_ble_eq_true rfl) hf (fun r2 σ1 hf => ?_)
  obtain ⟨hz, hf⟩ := zbo_some hf
  cases hf
  exact zr_zret C (by decide +kernel) hz T
theorem y_M_isPlace : zY yX11_isPlace cX11_isPlace 1 (some .boolean) 1 := ⟨q_1180, q_90, by decide +kernel, by decide +kernel, by decide +kernel⟩
theorem k_M_isPlace {l : Launch} {d : zD} {F : zF} {h : Nat → Nat} {σ : zS} {lv : List (Option Value)} {pc : Nat} {own : String} {cc : ByteArray} {nL fr lo idx : Nat} {rest : List Value} {β : Type} {kf : Int32 → zS → Option β} {o2 : β} {p0 : Int32} (pc' : Nat) (C : zOk d F own cc nL fr lo) (hd : decode cc pc = .ok (.invokestatic idx, 3)) (hp : pc + 3 = pc') (hq : Cond.methodLink own idx yX11_isPlace ∈ zW) (hm : 1 + 1 ≤ fr ∧ 8 + (1 + 11) + 22 ≤ lo) (hr : (rest.map fun v => v.category).sum ≤ 8) (hf : zbd (f_M_isPlace p0 σ) kf = some o2) (K : ∀ (r : Int32) (σ' : zS), kf r σ' = some o2 → V l d F 0 0 (MW d h σ') lv pc' (.int r :: rest)) : V l d F 0 0 (MW d h σ) lv pc (.int p0 :: rest) := by
  obtain ⟨q, h1, h2⟩ := zbd_some hf
  exact zr_callS y_M_isPlace q_1179 (As := [.int p0]) (m_M_isPlace h1) rfl rfl pc' C hd hp hq hm hr (K _ _ h2)
/-! StepsBeyondModel.isHouse(I)Z -/
def f_M_isHouse (p1 : Int32) (σ : zS) : Option (Int32 × zS) :=
  zbd (f_M_in p1 0 ((σ.1 0) - 1) σ) fun r2 σ1 =>
  zbo r2 (some (r2, σ1))
set_option maxRecDepth 4000 in
theorem m_M_isHouse {l : Launch} {d : zD} {h : Nat → Nat} {out : Int32 × zS} {σ : zS} {p1 : Int32} (hf : f_M_isHouse p1 σ = some out) : zM l yX11_isHouse cX11_isHouse 2 (some .boolean) 1 22 d [.ref (h 0), .int p1] (MW d h σ) (MW d h out.2) (some (.int out.1)) := by
  refine zM_of [some (.ref (h 0)), some (.int p1)] (by decide +kernel) rfl (Nat.le_of_ble_eq_true rfl) (fun F C T => ?_)
  unfold f_M_isHouse at hf
  refine zr_iload_n 1 1 C (by decide +kernel) rfl rfl ?_
  refine zr_iconst (v := 0) 0 2 C (by decide +kernel) rfl rfl ?_
  refine zr_aload_n 0 3 C (by decide +kernel) rfl rfl ?_
  refine mg_0_0 (idx := 143) 6 C (by decide +kernel) rfl q_991 ?_
  refine zr_iconst (v := 1) 1 7 C (by decide +kernel) rfl rfl ?_
  refine zr_isub 8 C (by decide +kernel) rfl ?_
  refine k_M_in (idx := 139) 11 C (by decide +kernel) rfl q_1181 (zb2 rfl rfl) (Nat.le_of_ble_eq_true rfl) hf (fun r2 σ1 hf => ?_)
  obtain ⟨hz, hf⟩ := zbo_some hf
  cases hf
  exact zr_zret C (by decide +kernel) hz T
theorem y_M_isHouse : zY yX11_isHouse cX11_isHouse 2 (some .boolean) 1 := ⟨q_1191, q_90, by decide +kernel, by decide +kernel, by decide +kernel⟩
theorem k_M_isHouse {l : Launch} {d : zD} {F : zF} {h : Nat → Nat} {σ : zS} {lv : List (Option Value)} {pc : Nat} {own : String} {cc : ByteArray} {nL fr lo idx : Nat} {rest : List Value} {β : Type} {kf : Int32 → zS → Option β} {o2 : β} {p1 : Int32} (pc' : Nat) (C : zOk d F own cc nL fr lo) (hd : decode cc pc = .ok (.invokevirtual idx, 3)) (hp : pc + 3 = pc') (hq : Cond.methodLink own idx yX11_isHouse ∈ zW) (hm : 1 + 1 ≤ fr ∧ 8 + (2 + 11) + 22 ≤ lo) (hr : (rest.map fun v => v.category).sum ≤ 8) (hf : zbd (f_M_isHouse p1 σ) kf = some o2) (K : ∀ (r : Int32) (σ' : zS), kf r σ' = some o2 → V l d F 0 0 (MW d h σ') lv pc' (.int r :: rest)) : V l d F 0 0 (MW d h σ) lv pc (.int p1 :: .ref (h 0) :: rest) := by
  obtain ⟨q, h1, h2⟩ := zbd_some hf
  exact zr_callV y_M_isHouse ⟨q_1190, q_37⟩ 0 rfl rfl (As := [.int p1]) (m_M_isHouse h1) rfl rfl pc' C hd hp hq hm hr (K _ _ h2)
/-! StepsBeyondModel.abs(I)I -/
def f_M_abs (p0 : Int32) (σ : zS) : Option (Int32 × zS) :=
  (if 0 ≤ p0 then
  some (p0, σ)
  else
  some (-p0, σ))
set_option maxRecDepth 4000 in
theorem m_M_abs {l : Launch} {d : zD} {h : Nat → Nat} {out : Int32 × zS} {σ : zS} {p0 : Int32} (hf : f_M_abs p0 σ = some out) : zM l yX11_abs cX11_abs 1 (some .int) 0 0 d [.int p0] (MW d h σ) (MW d h out.2) (some (.int out.1)) := by
  refine zM_of [some (.int p0)] (by decide +kernel) rfl (Nat.le_of_ble_eq_true rfl) (fun F C T => ?_)
  unfold f_M_abs at hf
  refine zr_iload_n 0 1 C (by decide +kernel) rfl rfl ?_
  refine zr_if_ge (off := 8) 9 4 C (by decide +kernel) (by decide) rfl hf (fun hf => ?_) (fun hf => ?_)
  · refine zr_iload_n 0 10 C (by decide +kernel) rfl rfl ?_
    cases hf
    exact zr_iret C (by decide +kernel) T
  · refine zr_iload_n 0 5 C (by decide +kernel) rfl rfl ?_
    refine zr_ineg 6 C (by decide +kernel) rfl ?_
    refine zr_goto (off := 4) 10 C (by decide +kernel) (by decide) ?_
    cases hf
    exact zr_iret C (by decide +kernel) T
theorem y_M_abs : zY yX11_abs cX11_abs 1 (some .int) 1 := ⟨q_1262, q_90, by decide +kernel, by decide +kernel, by decide +kernel⟩
theorem k_M_abs {l : Launch} {d : zD} {F : zF} {h : Nat → Nat} {σ : zS} {lv : List (Option Value)} {pc : Nat} {own : String} {cc : ByteArray} {nL fr lo idx : Nat} {rest : List Value} {β : Type} {kf : Int32 → zS → Option β} {o2 : β} {p0 : Int32} (pc' : Nat) (C : zOk d F own cc nL fr lo) (hd : decode cc pc = .ok (.invokestatic idx, 3)) (hp : pc + 3 = pc') (hq : Cond.methodLink own idx yX11_abs ∈ zW) (hm : 0 + 1 ≤ fr ∧ 8 + (1 + 11) + 0 ≤ lo) (hr : (rest.map fun v => v.category).sum ≤ 8) (hf : zbd (f_M_abs p0 σ) kf = some o2) (K : ∀ (r : Int32) (σ' : zS), kf r σ' = some o2 → V l d F 0 0 (MW d h σ') lv pc' (.int r :: rest)) : V l d F 0 0 (MW d h σ) lv pc (.int p0 :: rest) := by
  obtain ⟨q, h1, h2⟩ := zbd_some hf
  exact zr_callS y_M_abs q_1261 (As := [.int p0]) (m_M_abs h1) rfl rfl pc' C hd hp hq hm hr (K _ _ h2)
/-! StepsBeyondModel.apart(II)I -/
def f_M_apart (p0 : Int32) (p1 : Int32) (σ : zS) : Option (Int32 × zS) :=
  zbd (f_M_abs ((zrem p0 40) - (zrem p1 40)) σ) fun r2 σ1 =>
  zbd (f_M_abs ((p0 / 40) - (p1 / 40)) σ1) fun r4 σ3 =>
  some (r2 + r4, σ3)
set_option maxRecDepth 4000 in
theorem m_M_apart {l : Launch} {d : zD} {h : Nat → Nat} {out : Int32 × zS} {σ : zS} {p0 : Int32} {p1 : Int32} (hf : f_M_apart p0 p1 σ = some out) : zM l yX11_apart cX11_apart 2 (some .int) 1 20 d [.int p0, .int p1] (MW d h σ) (MW d h out.2) (some (.int out.1)) := by
  refine zM_of [some (.int p0), some (.int p1)] (by decide +kernel) rfl (Nat.le_of_ble_eq_true rfl) (fun F C T => ?_)
  unfold f_M_apart at hf
  refine zr_iload_n 0 1 C (by decide +kernel) rfl rfl ?_
  refine zr_bipush (v := 40) 40 3 C (by decide +kernel) rfl rfl ?_
  refine zr_irem 4 C (by decide +kernel) rfl (by decide) ?_
  refine zr_iload_n 1 5 C (by decide +kernel) rfl rfl ?_
  refine zr_bipush (v := 40) 40 7 C (by decide +kernel) rfl rfl ?_
  refine zr_irem 8 C (by decide +kernel) rfl (by decide) ?_
  refine zr_isub 9 C (by decide +kernel) rfl ?_
  refine k_M_abs (idx := 146) 12 C (by decide +kernel) rfl q_1260 (zb2 rfl rfl) (Nat.le_of_ble_eq_true rfl) hf (fun r2 σ1 hf => ?_)
  refine zr_iload_n 0 13 C (by decide +kernel) rfl rfl ?_
  refine zr_bipush (v := 40) 40 15 C (by decide +kernel) rfl rfl ?_
  refine zr_idiv 16 C (by decide +kernel) rfl (by decide) ?_
  refine zr_iload_n 1 17 C (by decide +kernel) rfl rfl ?_
  refine zr_bipush (v := 40) 40 19 C (by decide +kernel) rfl rfl ?_
  refine zr_idiv 20 C (by decide +kernel) rfl (by decide) ?_
  refine zr_isub 21 C (by decide +kernel) rfl ?_
  refine k_M_abs (idx := 146) 24 C (by decide +kernel) rfl q_1260 (zb2 rfl rfl) (Nat.le_of_ble_eq_true rfl) hf (fun r4 σ3 hf => ?_)
  refine zr_iadd 25 C (by decide +kernel) rfl ?_
  cases hf
  exact zr_iret C (by decide +kernel) T
theorem y_M_apart : zY yX11_apart cX11_apart 2 (some .int) 2 := ⟨q_1259, q_90, by decide +kernel, by decide +kernel, by decide +kernel⟩
theorem k_M_apart {l : Launch} {d : zD} {F : zF} {h : Nat → Nat} {σ : zS} {lv : List (Option Value)} {pc : Nat} {own : String} {cc : ByteArray} {nL fr lo idx : Nat} {rest : List Value} {β : Type} {kf : Int32 → zS → Option β} {o2 : β} {p0 : Int32} {p1 : Int32} (pc' : Nat) (C : zOk d F own cc nL fr lo) (hd : decode cc pc = .ok (.invokestatic idx, 3)) (hp : pc + 3 = pc') (hq : Cond.methodLink own idx yX11_apart ∈ zW) (hm : 1 + 1 ≤ fr ∧ 8 + (2 + 11) + 20 ≤ lo) (hr : (rest.map fun v => v.category).sum ≤ 8) (hf : zbd (f_M_apart p0 p1 σ) kf = some o2) (K : ∀ (r : Int32) (σ' : zS), kf r σ' = some o2 → V l d F 0 0 (MW d h σ') lv pc' (.int r :: rest)) : V l d F 0 0 (MW d h σ) lv pc (.int p1 :: .int p0 :: rest) := by
  obtain ⟨q, h1, h2⟩ := zbd_some hf
  exact zr_callS y_M_apart q_1258 (As := [.int p0, .int p1]) (m_M_apart h1) rfl rfl pc' C hd hp hq hm hr (K _ _ h2)
/-! StepsBeyondModel.house(II)I -/
def f_M_house (p1 : Int32) (p2 : Int32) (σ : zS) : Option (Int32 × zS) :=
  zbd (f_M_isPlace p1 σ) fun r2 σ1 =>
  (if r2 = 0 then
  some (-2, σ1)
  else
  zbd (f_M_in p2 0 1 σ1) fun r4 σ3 =>
  (if r4 = 0 then
  some (-2, σ3)
  else
  (if (σ3.1 0) = 20 then
  some (-4, σ3)
  else
  zin (σ3.1 0) 20 (zlt (zsa σ3 1 (σ3.1 0) p1) fun σ5 =>
  zin (σ5.1 0) 20 (zlt (zsa σ5 2 (σ5.1 0) p2) fun σ6 =>
  zlt (zsg σ6 0 ((σ6.1 0) + 1)) fun σ7 =>
  some ((σ7.1 0) - 1, σ7))))))
set_option maxRecDepth 4000 in
theorem m_M_house {l : Launch} {d : zD} {h : Nat → Nat} {out : Int32 × zS} {σ : zS} {p1 : Int32} {p2 : Int32} (hf : f_M_house p1 p2 σ = some out) : zM l yX11_house cX11_house 3 (some .int) 2 42 d [.ref (h 0), .int p1, .int p2] (MW d h σ) (MW d h out.2) (some (.int out.1)) := by
  refine zM_of [some (.ref (h 0)), some (.int p1), some (.int p2)] (by decide +kernel) rfl (Nat.le_of_ble_eq_true rfl) (fun F C T => ?_)
  unfold f_M_house at hf
  refine zr_iload_n 1 1 C (by decide +kernel) rfl rfl ?_
  refine k_M_isPlace (idx := 150) 4 C (by decide +kernel) rfl q_1178 (zb2 rfl rfl) (Nat.le_of_ble_eq_true rfl) hf (fun r2 σ1 hf => ?_)
  refine zr_if_eq (off := 12) 16 7 C (by decide +kernel) (by decide) rfl hf (fun hf => ?_) (fun hf => ?_)
  · refine zr_bipush (v := (-2)) (-2) 18 C (by decide +kernel) rfl rfl ?_
    cases hf
    exact zr_iret C (by decide +kernel) T
  · refine zr_iload_n 2 8 C (by decide +kernel) rfl rfl ?_
    refine zr_iconst (v := 0) 0 9 C (by decide +kernel) rfl rfl ?_
    refine zr_iconst (v := 1) 1 10 C (by decide +kernel) rfl rfl ?_
    refine k_M_in (idx := 139) 13 C (by decide +kernel) rfl q_1181 (zb2 rfl rfl) (Nat.le_of_ble_eq_true rfl) hf (fun r4 σ3 hf => ?_)
    refine zr_if_ne (off := 6) 19 16 C (by decide +kernel) (by decide) rfl hf (fun hf => ?_) (fun hf => ?_)
    · refine zr_aload_n 0 20 C (by decide +kernel) rfl rfl ?_
      refine mg_0_0 (idx := 143) 23 C (by decide +kernel) rfl q_991 ?_
      refine zr_bipush (v := 20) 20 25 C (by decide +kernel) rfl rfl ?_
      refine zr_icmp_ne (off := 6) 31 28 C (by decide +kernel) (by decide) rfl hf (fun hf => ?_) (fun hf => ?_)
      · refine zr_aload_n 0 32 C (by decide +kernel) rfl rfl ?_
        refine mg_0_1 (idx := 7) 35 C (by decide +kernel) rfl q_992 ?_
        refine zr_aload_n 0 36 C (by decide +kernel) rfl rfl ?_
        refine mg_0_0 (idx := 143) 39 C (by decide +kernel) rfl q_991 ?_
        refine zr_iload_n 1 40 C (by decide +kernel) rfl rfl ?_
        refine ms_1 41 C (by decide +kernel) rfl hf (fun σ5 hf => ?_)
        refine zr_aload_n 0 42 C (by decide +kernel) rfl rfl ?_
        refine mg_0_2 (idx := 13) 45 C (by decide +kernel) rfl q_993 ?_
        refine zr_aload_n 0 46 C (by decide +kernel) rfl rfl ?_
        refine mg_0_0 (idx := 143) 49 C (by decide +kernel) rfl q_991 ?_
        refine zr_iload_n 2 50 C (by decide +kernel) rfl rfl ?_
        refine ms_2 51 C (by decide +kernel) rfl hf (fun σ6 hf => ?_)
        refine zr_aload_n 0 52 C (by decide +kernel) rfl rfl ?_
        refine zr_dup 53 C (by decide +kernel) rfl rfl ?_
        refine mg_0_0 (idx := 143) 56 C (by decide +kernel) rfl q_991 ?_
        refine zr_iconst (v := 1) 1 57 C (by decide +kernel) rfl rfl ?_
        refine zr_iadd 58 C (by decide +kernel) rfl ?_
        refine mp_0_0 (idx := 143) 61 C (by decide +kernel) rfl q_991 hf (fun σ7 hf => ?_)
        refine zr_aload_n 0 62 C (by decide +kernel) rfl rfl ?_
        refine mg_0_0 (idx := 143) 65 C (by decide +kernel) rfl q_991 ?_
        refine zr_iconst (v := 1) 1 66 C (by decide +kernel) rfl rfl ?_
        refine zr_isub 67 C (by decide +kernel) rfl ?_
        cases hf
        exact zr_iret C (by decide +kernel) T
      · refine zr_bipush (v := (-4)) (-4) 30 C (by decide +kernel) rfl rfl ?_
        cases hf
        exact zr_iret C (by decide +kernel) T
    · refine zr_bipush (v := (-2)) (-2) 18 C (by decide +kernel) rfl rfl ?_
      cases hf
      exact zr_iret C (by decide +kernel) T
theorem y_M_house : zY yX11_house cX11_house 3 (some .int) 2 := ⟨q_1177, q_90, by decide +kernel, by decide +kernel, by decide +kernel⟩
theorem k_M_house {l : Launch} {d : zD} {F : zF} {h : Nat → Nat} {σ : zS} {lv : List (Option Value)} {pc : Nat} {own : String} {cc : ByteArray} {nL fr lo idx : Nat} {rest : List Value} {β : Type} {kf : Int32 → zS → Option β} {o2 : β} {p1 : Int32} {p2 : Int32} (pc' : Nat) (C : zOk d F own cc nL fr lo) (hd : decode cc pc = .ok (.invokevirtual idx, 3)) (hp : pc + 3 = pc') (hq : Cond.methodLink own idx yX11_house ∈ zW) (hm : 2 + 1 ≤ fr ∧ 8 + (3 + 11) + 42 ≤ lo) (hr : (rest.map fun v => v.category).sum ≤ 8) (hf : zbd (f_M_house p1 p2 σ) kf = some o2) (K : ∀ (r : Int32) (σ' : zS), kf r σ' = some o2 → V l d F 0 0 (MW d h σ') lv pc' (.int r :: rest)) : V l d F 0 0 (MW d h σ) lv pc (.int p2 :: .int p1 :: .ref (h 0) :: rest) := by
  obtain ⟨q, h1, h2⟩ := zbd_some hf
  exact zr_callV y_M_house ⟨q_1175, q_1176⟩ 0 rfl rfl (As := [.int p1, .int p2]) (m_M_house h1) rfl rfl pc' C hd hp hq hm hr (K _ _ h2)
/-! StepsBeyondModel.hut(II)I -/
def f_M_hut (p1 : Int32) (p2 : Int32) (σ : zS) : Option (Int32 × zS) :=
  zbd (f_M_isHouse p1 σ) fun r2 σ1 =>
  (if r2 = 0 then
  some (-1, σ1)
  else
  zbd (f_M_in p2 0 1 σ1) fun r4 σ3 =>
  (if r4 = 0 then
  some (-2, σ3)
  else
  zin p1 20 (zlt (σ3.2 2 p1.toNatClampNeg) fun v5 => 
  zin p1 20 (zlt (zsa σ3 2 p1 p2) fun σ6 =>
  some (v5, σ6)))))
set_option maxRecDepth 4000 in
theorem m_M_hut {l : Launch} {d : zD} {h : Nat → Nat} {out : Int32 × zS} {σ : zS} {p1 : Int32} {p2 : Int32} (hf : f_M_hut p1 p2 σ = some out) : zM l yX11_hut cX11_hut 4 (some .int) 2 43 d [.ref (h 0), .int p1, .int p2] (MW d h σ) (MW d h out.2) (some (.int out.1)) := by
  refine zM_of [some (.ref (h 0)), some (.int p1), some (.int p2), none] (by decide +kernel) rfl (Nat.le_of_ble_eq_true rfl) (fun F C T => ?_)
  unfold f_M_hut at hf
  refine zr_aload_n 0 1 C (by decide +kernel) rfl rfl ?_
  refine zr_iload_n 1 2 C (by decide +kernel) rfl rfl ?_
  refine k_M_isHouse (idx := 154) 5 C (by decide +kernel) rfl q_1188 (zb2 rfl rfl) (Nat.le_of_ble_eq_true rfl) hf (fun r2 σ1 hf => ?_)
  refine zr_if_ne (off := 5) 10 8 C (by decide +kernel) (by decide) rfl hf (fun hf => ?_) (fun hf => ?_)
  · refine zr_iload_n 2 11 C (by decide +kernel) rfl rfl ?_
    refine zr_iconst (v := 0) 0 12 C (by decide +kernel) rfl rfl ?_
    refine zr_iconst (v := 1) 1 13 C (by decide +kernel) rfl rfl ?_
    refine k_M_in (idx := 139) 16 C (by decide +kernel) rfl q_1181 (zb2 rfl rfl) (Nat.le_of_ble_eq_true rfl) hf (fun r4 σ3 hf => ?_)
    refine zr_if_ne (off := 6) 22 19 C (by decide +kernel) (by decide) rfl hf (fun hf => ?_) (fun hf => ?_)
    · refine zr_aload_n 0 23 C (by decide +kernel) rfl rfl ?_
      refine mg_0_2 (idx := 13) 26 C (by decide +kernel) rfl q_993 ?_
      refine zr_iload_n 1 27 C (by decide +kernel) rfl rfl ?_
      refine ml_2 28 C (by decide +kernel) rfl hf (fun hf => ?_)
      refine zr_name hf (fun v5 hf => ?_)
      refine zr_istore_n 3 [some (.ref (h 0)), some (.int p1), some (.int p2), some (.int v5)] 29 C (by decide +kernel) rfl (by decide) rfl rfl ?_
      refine zr_aload_n 0 30 C (by decide +kernel) rfl rfl ?_
      refine mg_0_2 (idx := 13) 33 C (by decide +kernel) rfl q_993 ?_
      refine zr_iload_n 1 34 C (by decide +kernel) rfl rfl ?_
      refine zr_iload_n 2 35 C (by decide +kernel) rfl rfl ?_
      refine ms_2 36 C (by decide +kernel) rfl hf (fun σ6 hf => ?_)
      refine zr_iload_n 3 37 C (by decide +kernel) rfl rfl ?_
      cases hf
      exact zr_iret C (by decide +kernel) T
    · refine zr_bipush (v := (-2)) (-2) 21 C (by decide +kernel) rfl rfl ?_
      cases hf
      exact zr_iret C (by decide +kernel) T
  · refine zr_iconst (v := (-1)) (-1) 9 C (by decide +kernel) rfl rfl ?_
    cases hf
    exact zr_iret C (by decide +kernel) T
theorem y_M_hut : zY yX11_hut cX11_hut 4 (some .int) 2 := ⟨q_1187, q_90, by decide +kernel, by decide +kernel, by decide +kernel⟩
theorem k_M_hut {l : Launch} {d : zD} {F : zF} {h : Nat → Nat} {σ : zS} {lv : List (Option Value)} {pc : Nat} {own : String} {cc : ByteArray} {nL fr lo idx : Nat} {rest : List Value} {β : Type} {kf : Int32 → zS → Option β} {o2 : β} {p1 : Int32} {p2 : Int32} (pc' : Nat) (C : zOk d F own cc nL fr lo) (hd : decode cc pc = .ok (.invokevirtual idx, 3)) (hp : pc + 3 = pc') (hq : Cond.methodLink own idx yX11_hut ∈ zW) (hm : 2 + 1 ≤ fr ∧ 8 + (4 + 11) + 43 ≤ lo) (hr : (rest.map fun v => v.category).sum ≤ 8) (hf : zbd (f_M_hut p1 p2 σ) kf = some o2) (K : ∀ (r : Int32) (σ' : zS), kf r σ' = some o2 → V l d F 0 0 (MW d h σ') lv pc' (.int r :: rest)) : V l d F 0 0 (MW d h σ) lv pc (.int p2 :: .int p1 :: .ref (h 0) :: rest) := by
  obtain ⟨q, h1, h2⟩ := zbd_some hf
  exact zr_callV y_M_hut ⟨q_1185, q_1186⟩ 0 rfl rfl (As := [.int p1, .int p2]) (m_M_hut h1) rfl rfl pc' C hd hp hq hm hr (K _ _ h2)
end
