section
-- ===== PART A: goes FIRST, ahead of the names: the tables' words, and 'selects' of the private methods out of them =====
/-- a private method of a class that the tables say can be made, by its rows of tables_1 -/
def lw_okq (q : MethodName × Nat) : Prop := (q.1.cls ≠ "java/lang/invoke/MethodHandle" ∧ q.1.cls ≠ "java/lang/invoke/VarHandle") ∧ Cond.instantiable q.1.cls q.2 ∈ tables_1 ∧ Cond.privateMethod q.1 ∈ tables_1 ∧ Cond.instanceMethod q.1 ∈ tables_1
theorem lw_p0 : lw_okq (⟨"SheetDoctor$Tape", "findTokens", "()V"⟩, 13) := ⟨⟨by decide +kernel, by decide +kernel⟩, List.mem_of_getElem? (i := 36) (by decide +kernel), List.mem_of_getElem? (i := 418) (by decide +kernel), List.mem_of_getElem? (i := 419) (by decide +kernel)⟩
theorem lw_p1 : lw_okq (⟨"SheetDoctor$Tape", "endOfToken", "(I)I"⟩, 13) := ⟨⟨by decide +kernel, by decide +kernel⟩, List.mem_of_getElem? (i := 36) (by decide +kernel), List.mem_of_getElem? (i := 422) (by decide +kernel), List.mem_of_getElem? (i := 423) (by decide +kernel)⟩
theorem lw_p2 : lw_okq (⟨"SheetDoctor$Tape", "kindOf", "(II)I"⟩, 13) := ⟨⟨by decide +kernel, by decide +kernel⟩, List.mem_of_getElem? (i := 36) (by decide +kernel), List.mem_of_getElem? (i := 435) (by decide +kernel), List.mem_of_getElem? (i := 436) (by decide +kernel)⟩
theorem lw_p3 : lw_okq (⟨"SheetDoctor$Tape", "addToken", "(III)V"⟩, 13) := ⟨⟨by decide +kernel, by decide +kernel⟩, List.mem_of_getElem? (i := 36) (by decide +kernel), List.mem_of_getElem? (i := 524) (by decide +kernel), List.mem_of_getElem? (i := 525) (by decide +kernel)⟩
theorem lw_p4 : lw_okq (⟨"SheetDoctor$Tape", "wordAmount", "(II)I"⟩, 13) := ⟨⟨by decide +kernel, by decide +kernel⟩, List.mem_of_getElem? (i := 36) (by decide +kernel), List.mem_of_getElem? (i := 528) (by decide +kernel), List.mem_of_getElem? (i := 529) (by decide +kernel)⟩
theorem lw_p5 : lw_okq (⟨"SheetDoctor$Tape", "digitsAmount", "(II)I"⟩, 13) := ⟨⟨by decide +kernel, by decide +kernel⟩, List.mem_of_getElem? (i := 36) (by decide +kernel), List.mem_of_getElem? (i := 532) (by decide +kernel), List.mem_of_getElem? (i := 533) (by decide +kernel)⟩
theorem lw_p6 : lw_okq (⟨"SheetDoctor$Tape", "sum", "(I)Z"⟩, 13) := ⟨⟨by decide +kernel, by decide +kernel⟩, List.mem_of_getElem? (i := 36) (by decide +kernel), List.mem_of_getElem? (i := 536) (by decide +kernel), List.mem_of_getElem? (i := 537) (by decide +kernel)⟩
theorem lw_p7 : lw_okq (⟨"SheetDoctor$Tape", "product", "(I)Z"⟩, 13) := ⟨⟨by decide +kernel, by decide +kernel⟩, List.mem_of_getElem? (i := 36) (by decide +kernel), List.mem_of_getElem? (i := 540) (by decide +kernel), List.mem_of_getElem? (i := 541) (by decide +kernel)⟩
theorem lw_p8 : lw_okq (⟨"SheetDoctor$Tape", "part", "(I)Z"⟩, 13) := ⟨⟨by decide +kernel, by decide +kernel⟩, List.mem_of_getElem? (i := 36) (by decide +kernel), List.mem_of_getElem? (i := 544) (by decide +kernel), List.mem_of_getElem? (i := 545) (by decide +kernel)⟩
theorem lw_p9 : lw_okq (⟨"SheetDoctor$Tape", "startsPart", "()Z"⟩, 13) := ⟨⟨by decide +kernel, by decide +kernel⟩, List.mem_of_getElem? (i := 36) (by decide +kernel), List.mem_of_getElem? (i := 548) (by decide +kernel), List.mem_of_getElem? (i := 549) (by decide +kernel)⟩
theorem lw_p10 : lw_okq (⟨"SheetDoctor$Tape", "kind", "()I"⟩, 13) := ⟨⟨by decide +kernel, by decide +kernel⟩, List.mem_of_getElem? (i := 36) (by decide +kernel), List.mem_of_getElem? (i := 552) (by decide +kernel), List.mem_of_getElem? (i := 553) (by decide +kernel)⟩
theorem lw_p11 : lw_okq (⟨"SheetDoctor$Tape", "amount", "()I"⟩, 13) := ⟨⟨by decide +kernel, by decide +kernel⟩, List.mem_of_getElem? (i := 36) (by decide +kernel), List.mem_of_getElem? (i := 556) (by decide +kernel), List.mem_of_getElem? (i := 557) (by decide +kernel)⟩
theorem lw_p12 : lw_okq (⟨"SheetDoctor$Tape", "wrong", "(I)Z"⟩, 13) := ⟨⟨by decide +kernel, by decide +kernel⟩, List.mem_of_getElem? (i := 36) (by decide +kernel), List.mem_of_getElem? (i := 560) (by decide +kernel), List.mem_of_getElem? (i := 561) (by decide +kernel)⟩
theorem lw_p13 : lw_okq (⟨"SheetDoctor$Tape", "brackets", "(I)Z"⟩, 13) := ⟨⟨by decide +kernel, by decide +kernel⟩, List.mem_of_getElem? (i := 36) (by decide +kernel), List.mem_of_getElem? (i := 564) (by decide +kernel), List.mem_of_getElem? (i := 565) (by decide +kernel)⟩
theorem lw_p14 : lw_okq (⟨"SheetDoctor$Tape", "take", "(I)Z"⟩, 13) := ⟨⟨by decide +kernel, by decide +kernel⟩, List.mem_of_getElem? (i := 36) (by decide +kernel), List.mem_of_getElem? (i := 568) (by decide +kernel), List.mem_of_getElem? (i := 569) (by decide +kernel)⟩
theorem lw_p15 : lw_okq (⟨"SheetDoctor$Tape", "add", "(III)V"⟩, 13) := ⟨⟨by decide +kernel, by decide +kernel⟩, List.mem_of_getElem? (i := 36) (by decide +kernel), List.mem_of_getElem? (i := 572) (by decide +kernel), List.mem_of_getElem? (i := 573) (by decide +kernel)⟩
def lw_privs_1 : List (MethodName × Nat) := [(⟨"SheetDoctor$Tape", "findTokens", "()V"⟩, 13), (⟨"SheetDoctor$Tape", "endOfToken", "(I)I"⟩, 13), (⟨"SheetDoctor$Tape", "kindOf", "(II)I"⟩, 13), (⟨"SheetDoctor$Tape", "addToken", "(III)V"⟩, 13), (⟨"SheetDoctor$Tape", "wordAmount", "(II)I"⟩, 13), (⟨"SheetDoctor$Tape", "digitsAmount", "(II)I"⟩, 13), (⟨"SheetDoctor$Tape", "sum", "(I)Z"⟩, 13), (⟨"SheetDoctor$Tape", "product", "(I)Z"⟩, 13), (⟨"SheetDoctor$Tape", "part", "(I)Z"⟩, 13), (⟨"SheetDoctor$Tape", "startsPart", "()Z"⟩, 13), (⟨"SheetDoctor$Tape", "kind", "()I"⟩, 13), (⟨"SheetDoctor$Tape", "amount", "()I"⟩, 13), (⟨"SheetDoctor$Tape", "wrong", "(I)Z"⟩, 13), (⟨"SheetDoctor$Tape", "brackets", "(I)Z"⟩, 13), (⟨"SheetDoctor$Tape", "take", "(I)Z"⟩, 13), (⟨"SheetDoctor$Tape", "add", "(III)V"⟩, 13)]
theorem lw_r1 : ∀ q ∈ lw_privs_1, lw_okq q := List.forall_mem_cons.mpr ⟨lw_p0, List.forall_mem_cons.mpr ⟨lw_p1, List.forall_mem_cons.mpr ⟨lw_p2, List.forall_mem_cons.mpr ⟨lw_p3, List.forall_mem_cons.mpr ⟨lw_p4, List.forall_mem_cons.mpr ⟨lw_p5, List.forall_mem_cons.mpr ⟨lw_p6, List.forall_mem_cons.mpr ⟨lw_p7, List.forall_mem_cons.mpr ⟨lw_p8, List.forall_mem_cons.mpr ⟨lw_p9, List.forall_mem_cons.mpr ⟨lw_p10, List.forall_mem_cons.mpr ⟨lw_p11, List.forall_mem_cons.mpr ⟨lw_p12, List.forall_mem_cons.mpr ⟨lw_p13, List.forall_mem_cons.mpr ⟨lw_p14, List.forall_mem_cons.mpr ⟨lw_p15, fun _ h => absurd h List.not_mem_nil⟩⟩⟩⟩⟩⟩⟩⟩⟩⟩⟩⟩⟩⟩⟩⟩
theorem lw_p16 : lw_okq (⟨"SheetDoctor$Tape", "negated", "(I)Z"⟩, 13) := ⟨⟨by decide +kernel, by decide +kernel⟩, List.mem_of_getElem? (i := 36) (by decide +kernel), List.mem_of_getElem? (i := 576) (by decide +kernel), List.mem_of_getElem? (i := 577) (by decide +kernel)⟩
theorem lw_p17 : lw_okq (⟨"SheetDoctor$Tape", "span", "()Z"⟩, 13) := ⟨⟨by decide +kernel, by decide +kernel⟩, List.mem_of_getElem? (i := 36) (by decide +kernel), List.mem_of_getElem? (i := 580) (by decide +kernel), List.mem_of_getElem? (i := 581) (by decide +kernel)⟩
theorem lw_p18 : lw_okq (⟨"SheetDoctor$Tape", "reference", "(II)I"⟩, 13) := ⟨⟨by decide +kernel, by decide +kernel⟩, List.mem_of_getElem? (i := 36) (by decide +kernel), List.mem_of_getElem? (i := 584) (by decide +kernel), List.mem_of_getElem? (i := 585) (by decide +kernel)⟩
theorem lw_p19 : lw_okq (⟨"SheetDoctor$Tape", "single", "()Z"⟩, 13) := ⟨⟨by decide +kernel, by decide +kernel⟩, List.mem_of_getElem? (i := 36) (by decide +kernel), List.mem_of_getElem? (i := 603) (by decide +kernel), List.mem_of_getElem? (i := 604) (by decide +kernel)⟩
theorem lw_p20 : lw_okq (⟨"SheetDoctor$Sheet", "forgetOldest", "()V"⟩, 7) := ⟨⟨by decide +kernel, by decide +kernel⟩, List.mem_of_getElem? (i := 86) (by decide +kernel), List.mem_of_getElem? (i := 644) (by decide +kernel), List.mem_of_getElem? (i := 645) (by decide +kernel)⟩
theorem lw_p21 : lw_okq (⟨"SheetDoctor$Formula", "spanFits", "(II)Z"⟩, 3) := ⟨⟨by decide +kernel, by decide +kernel⟩, List.mem_of_getElem? (i := 607) (by decide +kernel), List.mem_of_getElem? (i := 689) (by decide +kernel), List.mem_of_getElem? (i := 690) (by decide +kernel)⟩
theorem lw_p22 : lw_okq (⟨"SheetDoctor$Families", "familyOf", "(ILSheetDoctor$Formula;)I"⟩, 5) := ⟨⟨by decide +kernel, by decide +kernel⟩, List.mem_of_getElem? (i := 233) (by decide +kernel), List.mem_of_getElem? (i := 753) (by decide +kernel), List.mem_of_getElem? (i := 754) (by decide +kernel)⟩
theorem lw_p23 : lw_okq (⟨"SheetDoctor$Links", "forgetReads", "()V"⟩, 12) := ⟨⟨by decide +kernel, by decide +kernel⟩, List.mem_of_getElem? (i := 155) (by decide +kernel), List.mem_of_getElem? (i := 769) (by decide +kernel), List.mem_of_getElem? (i := 770) (by decide +kernel)⟩
theorem lw_p24 : lw_okq (⟨"SheetDoctor$Links", "gatherReads", "()V"⟩, 12) := ⟨⟨by decide +kernel, by decide +kernel⟩, List.mem_of_getElem? (i := 155) (by decide +kernel), List.mem_of_getElem? (i := 773) (by decide +kernel), List.mem_of_getElem? (i := 774) (by decide +kernel)⟩
theorem lw_p25 : lw_okq (⟨"SheetDoctor$Links", "gatherReadsOf", "(ILSheetDoctor$Formula;)V"⟩, 12) := ⟨⟨by decide +kernel, by decide +kernel⟩, List.mem_of_getElem? (i := 155) (by decide +kernel), List.mem_of_getElem? (i := 781) (by decide +kernel), List.mem_of_getElem? (i := 782) (by decide +kernel)⟩
theorem lw_p26 : lw_okq (⟨"SheetDoctor$Links", "formulasReadBy", "(I)I"⟩, 12) := ⟨⟨by decide +kernel, by decide +kernel⟩, List.mem_of_getElem? (i := 155) (by decide +kernel), List.mem_of_getElem? (i := 794) (by decide +kernel), List.mem_of_getElem? (i := 795) (by decide +kernel)⟩
theorem lw_p27 : lw_okq (⟨"SheetDoctor$Links", "appendToOrder", "(I)V"⟩, 12) := ⟨⟨by decide +kernel, by decide +kernel⟩, List.mem_of_getElem? (i := 155) (by decide +kernel), List.mem_of_getElem? (i := 804) (by decide +kernel), List.mem_of_getElem? (i := 805) (by decide +kernel)⟩
theorem lw_p28 : lw_okq (⟨"SheetDoctor$Links", "release", "(I)V"⟩, 12) := ⟨⟨by decide +kernel, by decide +kernel⟩, List.mem_of_getElem? (i := 155) (by decide +kernel), List.mem_of_getElem? (i := 808) (by decide +kernel), List.mem_of_getElem? (i := 809) (by decide +kernel)⟩
theorem lw_p29 : lw_okq (⟨"SheetDoctor$Links", "findRings", "()V"⟩, 12) := ⟨⟨by decide +kernel, by decide +kernel⟩, List.mem_of_getElem? (i := 155) (by decide +kernel), List.mem_of_getElem? (i := 815) (by decide +kernel), List.mem_of_getElem? (i := 816) (by decide +kernel)⟩
theorem lw_p30 : lw_okq (⟨"SheetDoctor$Links", "reachThrough", "(I)V"⟩, 12) := ⟨⟨by decide +kernel, by decide +kernel⟩, List.mem_of_getElem? (i := 155) (by decide +kernel), List.mem_of_getElem? (i := 820) (by decide +kernel), List.mem_of_getElem? (i := 821) (by decide +kernel)⟩
theorem lw_p31 : lw_okq (⟨"SheetDoctor$Units", "workOut", "(ILSheetDoctor$Formula;)V"⟩, 9) := ⟨⟨by decide +kernel, by decide +kernel⟩, List.mem_of_getElem? (i := 256) (by decide +kernel), List.mem_of_getElem? (i := 840) (by decide +kernel), List.mem_of_getElem? (i := 841) (by decide +kernel)⟩
def lw_privs_2 : List (MethodName × Nat) := [(⟨"SheetDoctor$Tape", "negated", "(I)Z"⟩, 13), (⟨"SheetDoctor$Tape", "span", "()Z"⟩, 13), (⟨"SheetDoctor$Tape", "reference", "(II)I"⟩, 13), (⟨"SheetDoctor$Tape", "single", "()Z"⟩, 13), (⟨"SheetDoctor$Sheet", "forgetOldest", "()V"⟩, 7), (⟨"SheetDoctor$Formula", "spanFits", "(II)Z"⟩, 3), (⟨"SheetDoctor$Families", "familyOf", "(ILSheetDoctor$Formula;)I"⟩, 5), (⟨"SheetDoctor$Links", "forgetReads", "()V"⟩, 12), (⟨"SheetDoctor$Links", "gatherReads", "()V"⟩, 12), (⟨"SheetDoctor$Links", "gatherReadsOf", "(ILSheetDoctor$Formula;)V"⟩, 12), (⟨"SheetDoctor$Links", "formulasReadBy", "(I)I"⟩, 12), (⟨"SheetDoctor$Links", "appendToOrder", "(I)V"⟩, 12), (⟨"SheetDoctor$Links", "release", "(I)V"⟩, 12), (⟨"SheetDoctor$Links", "findRings", "()V"⟩, 12), (⟨"SheetDoctor$Links", "reachThrough", "(I)V"⟩, 12), (⟨"SheetDoctor$Units", "workOut", "(ILSheetDoctor$Formula;)V"⟩, 9)]
theorem lw_r2 : ∀ q ∈ lw_privs_2, lw_okq q := List.forall_mem_cons.mpr ⟨lw_p16, List.forall_mem_cons.mpr ⟨lw_p17, List.forall_mem_cons.mpr ⟨lw_p18, List.forall_mem_cons.mpr ⟨lw_p19, List.forall_mem_cons.mpr ⟨lw_p20, List.forall_mem_cons.mpr ⟨lw_p21, List.forall_mem_cons.mpr ⟨lw_p22, List.forall_mem_cons.mpr ⟨lw_p23, List.forall_mem_cons.mpr ⟨lw_p24, List.forall_mem_cons.mpr ⟨lw_p25, List.forall_mem_cons.mpr ⟨lw_p26, List.forall_mem_cons.mpr ⟨lw_p27, List.forall_mem_cons.mpr ⟨lw_p28, List.forall_mem_cons.mpr ⟨lw_p29, List.forall_mem_cons.mpr ⟨lw_p30, List.forall_mem_cons.mpr ⟨lw_p31, fun _ h => absurd h List.not_mem_nil⟩⟩⟩⟩⟩⟩⟩⟩⟩⟩⟩⟩⟩⟩⟩⟩
theorem lw_p32 : lw_okq (⟨"SheetDoctor$Units", "pushUnitOf", "(I)V"⟩, 9) := ⟨⟨by decide +kernel, by decide +kernel⟩, List.mem_of_getElem? (i := 256) (by decide +kernel), List.mem_of_getElem? (i := 846) (by decide +kernel), List.mem_of_getElem? (i := 847) (by decide +kernel)⟩
theorem lw_p33 : lw_okq (⟨"SheetDoctor$Units", "firstFilled", "(ILSheetDoctor$Formula;I)I"⟩, 9) := ⟨⟨by decide +kernel, by decide +kernel⟩, List.mem_of_getElem? (i := 256) (by decide +kernel), List.mem_of_getElem? (i := 855) (by decide +kernel), List.mem_of_getElem? (i := 856) (by decide +kernel)⟩
theorem lw_p34 : lw_okq (⟨"SheetDoctor$Units", "areSame", "(II)Z"⟩, 9) := ⟨⟨by decide +kernel, by decide +kernel⟩, List.mem_of_getElem? (i := 256) (by decide +kernel), List.mem_of_getElem? (i := 861) (by decide +kernel), List.mem_of_getElem? (i := 862) (by decide +kernel)⟩
theorem lw_p35 : lw_okq (⟨"SheetDoctor$Units", "join", "(I)V"⟩, 9) := ⟨⟨by decide +kernel, by decide +kernel⟩, List.mem_of_getElem? (i := 256) (by decide +kernel), List.mem_of_getElem? (i := 865) (by decide +kernel), List.mem_of_getElem? (i := 866) (by decide +kernel)⟩
theorem lw_p36 : lw_okq (⟨"SheetDoctor$Totals", "forgetTwiceOf", "(I)V"⟩, 8) := ⟨⟨by decide +kernel, by decide +kernel⟩, List.mem_of_getElem? (i := 290) (by decide +kernel), List.mem_of_getElem? (i := 895) (by decide +kernel), List.mem_of_getElem? (i := 896) (by decide +kernel)⟩
theorem lw_p37 : lw_okq (⟨"SheetDoctor$Totals", "gatherTwiceOf", "(ILSheetDoctor$Formula;)V"⟩, 8) := ⟨⟨by decide +kernel, by decide +kernel⟩, List.mem_of_getElem? (i := 290) (by decide +kernel), List.mem_of_getElem? (i := 899) (by decide +kernel), List.mem_of_getElem? (i := 900) (by decide +kernel)⟩
theorem lw_p38 : lw_okq (⟨"SheetDoctor$Totals", "addRead", "(II)V"⟩, 8) := ⟨⟨by decide +kernel, by decide +kernel⟩, List.mem_of_getElem? (i := 290) (by decide +kernel), List.mem_of_getElem? (i := 906) (by decide +kernel), List.mem_of_getElem? (i := 907) (by decide +kernel)⟩
theorem lw_p39 : lw_okq (⟨"SheetDoctor$Totals", "addWaysOf", "(II)V"⟩, 8) := ⟨⟨by decide +kernel, by decide +kernel⟩, List.mem_of_getElem? (i := 290) (by decide +kernel), List.mem_of_getElem? (i := 910) (by decide +kernel), List.mem_of_getElem? (i := 911) (by decide +kernel)⟩
theorem lw_p40 : lw_okq (⟨"SheetDoctor$Findings", "gatherOf", "(I)V"⟩, 7) := ⟨⟨by decide +kernel, by decide +kernel⟩, List.mem_of_getElem? (i := 321) (by decide +kernel), List.mem_of_getElem? (i := 918) (by decide +kernel), List.mem_of_getElem? (i := 919) (by decide +kernel)⟩
theorem lw_p41 : lw_okq (⟨"SheetDoctor$Families", "isStranger", "(III)Z"⟩, 5) := ⟨⟨by decide +kernel, by decide +kernel⟩, List.mem_of_getElem? (i := 233) (by decide +kernel), List.mem_of_getElem? (i := 927) (by decide +kernel), List.mem_of_getElem? (i := 928) (by decide +kernel)⟩
theorem lw_p42 : lw_okq (⟨"SheetDoctor$Findings", "add", "(III)V"⟩, 7) := ⟨⟨by decide +kernel, by decide +kernel⟩, List.mem_of_getElem? (i := 321) (by decide +kernel), List.mem_of_getElem? (i := 936) (by decide +kernel), List.mem_of_getElem? (i := 937) (by decide +kernel)⟩
theorem lw_p43 : lw_okq (⟨"SheetDoctor$Findings", "gatherShort", "(ILSheetDoctor$Formula;)V"⟩, 7) := ⟨⟨by decide +kernel, by decide +kernel⟩, List.mem_of_getElem? (i := 321) (by decide +kernel), List.mem_of_getElem? (i := 941) (by decide +kernel), List.mem_of_getElem? (i := 942) (by decide +kernel)⟩
theorem lw_p44 : lw_okq (⟨"SheetDoctor$Findings", "goesOn", "(III)Z"⟩, 7) := ⟨⟨by decide +kernel, by decide +kernel⟩, List.mem_of_getElem? (i := 321) (by decide +kernel), List.mem_of_getElem? (i := 954) (by decide +kernel), List.mem_of_getElem? (i := 955) (by decide +kernel)⟩
theorem lw_p45 : lw_okq (⟨"SheetDoctor$Values", "workOut", "(ILSheetDoctor$Formula;)V"⟩, 9) := ⟨⟨by decide +kernel, by decide +kernel⟩, List.mem_of_getElem? (i := 199) (by decide +kernel), List.mem_of_getElem? (i := 1007) (by decide +kernel), List.mem_of_getElem? (i := 1008) (by decide +kernel)⟩
theorem lw_p46 : lw_okq (⟨"SheetDoctor$Values", "push", "(I)V"⟩, 9) := ⟨⟨by decide +kernel, by decide +kernel⟩, List.mem_of_getElem? (i := 199) (by decide +kernel), List.mem_of_getElem? (i := 1018) (by decide +kernel), List.mem_of_getElem? (i := 1019) (by decide +kernel)⟩
theorem lw_p47 : lw_okq (⟨"SheetDoctor$Values", "spanSum", "(ILSheetDoctor$Formula;I)I"⟩, 9) := ⟨⟨by decide +kernel, by decide +kernel⟩, List.mem_of_getElem? (i := 199) (by decide +kernel), List.mem_of_getElem? (i := 1023) (by decide +kernel), List.mem_of_getElem? (i := 1024) (by decide +kernel)⟩
def lw_privs_3 : List (MethodName × Nat) := [(⟨"SheetDoctor$Units", "pushUnitOf", "(I)V"⟩, 9), (⟨"SheetDoctor$Units", "firstFilled", "(ILSheetDoctor$Formula;I)I"⟩, 9), (⟨"SheetDoctor$Units", "areSame", "(II)Z"⟩, 9), (⟨"SheetDoctor$Units", "join", "(I)V"⟩, 9), (⟨"SheetDoctor$Totals", "forgetTwiceOf", "(I)V"⟩, 8), (⟨"SheetDoctor$Totals", "gatherTwiceOf", "(ILSheetDoctor$Formula;)V"⟩, 8), (⟨"SheetDoctor$Totals", "addRead", "(II)V"⟩, 8), (⟨"SheetDoctor$Totals", "addWaysOf", "(II)V"⟩, 8), (⟨"SheetDoctor$Findings", "gatherOf", "(I)V"⟩, 7), (⟨"SheetDoctor$Families", "isStranger", "(III)Z"⟩, 5), (⟨"SheetDoctor$Findings", "add", "(III)V"⟩, 7), (⟨"SheetDoctor$Findings", "gatherShort", "(ILSheetDoctor$Formula;)V"⟩, 7), (⟨"SheetDoctor$Findings", "goesOn", "(III)Z"⟩, 7), (⟨"SheetDoctor$Values", "workOut", "(ILSheetDoctor$Formula;)V"⟩, 9), (⟨"SheetDoctor$Values", "push", "(I)V"⟩, 9), (⟨"SheetDoctor$Values", "spanSum", "(ILSheetDoctor$Formula;I)I"⟩, 9)]
theorem lw_r3 : ∀ q ∈ lw_privs_3, lw_okq q := List.forall_mem_cons.mpr ⟨lw_p32, List.forall_mem_cons.mpr ⟨lw_p33, List.forall_mem_cons.mpr ⟨lw_p34, List.forall_mem_cons.mpr ⟨lw_p35, List.forall_mem_cons.mpr ⟨lw_p36, List.forall_mem_cons.mpr ⟨lw_p37, List.forall_mem_cons.mpr ⟨lw_p38, List.forall_mem_cons.mpr ⟨lw_p39, List.forall_mem_cons.mpr ⟨lw_p40, List.forall_mem_cons.mpr ⟨lw_p41, List.forall_mem_cons.mpr ⟨lw_p42, List.forall_mem_cons.mpr ⟨lw_p43, List.forall_mem_cons.mpr ⟨lw_p44, List.forall_mem_cons.mpr ⟨lw_p45, List.forall_mem_cons.mpr ⟨lw_p46, List.forall_mem_cons.mpr ⟨lw_p47, fun _ h => absurd h List.not_mem_nil⟩⟩⟩⟩⟩⟩⟩⟩⟩⟩⟩⟩⟩⟩⟩⟩
theorem lw_p48 : lw_okq (⟨"SheetDoctor$Values", "pop", "()I"⟩, 9) := ⟨⟨by decide +kernel, by decide +kernel⟩, List.mem_of_getElem? (i := 199) (by decide +kernel), List.mem_of_getElem? (i := 1036) (by decide +kernel), List.mem_of_getElem? (i := 1037) (by decide +kernel)⟩
theorem lw_p49 : lw_okq (⟨"SheetDoctor$Values", "join", "(I)V"⟩, 9) := ⟨⟨by decide +kernel, by decide +kernel⟩, List.mem_of_getElem? (i := 199) (by decide +kernel), List.mem_of_getElem? (i := 1040) (by decide +kernel), List.mem_of_getElem? (i := 1041) (by decide +kernel)⟩
theorem lw_p50 : lw_okq (⟨"SheetDoctor$Values", "quotient", "(II)I"⟩, 9) := ⟨⟨by decide +kernel, by decide +kernel⟩, List.mem_of_getElem? (i := 199) (by decide +kernel), List.mem_of_getElem? (i := 1044) (by decide +kernel), List.mem_of_getElem? (i := 1045) (by decide +kernel)⟩
theorem lw_p51 : lw_okq (⟨"SheetDoctor", "stretchedFormula", "(II)LSheetDoctor$Formula;"⟩, 9) := ⟨⟨by decide +kernel, by decide +kernel⟩, List.mem_of_getElem? (i := 28) (by decide +kernel), List.mem_of_getElem? (i := 1062) (by decide +kernel), List.mem_of_getElem? (i := 1063) (by decide +kernel)⟩
theorem lw_p52 : lw_okq (⟨"SheetDoctor$Totals", "waysThrough", "(IILSheetDoctor$Formula;)I"⟩, 8) := ⟨⟨by decide +kernel, by decide +kernel⟩, List.mem_of_getElem? (i := 290) (by decide +kernel), List.mem_of_getElem? (i := 1104) (by decide +kernel), List.mem_of_getElem? (i := 1105) (by decide +kernel)⟩
theorem lw_p53 : lw_okq (⟨"SheetDoctor$Totals", "waysBy", "(II)I"⟩, 8) := ⟨⟨by decide +kernel, by decide +kernel⟩, List.mem_of_getElem? (i := 290) (by decide +kernel), List.mem_of_getElem? (i := 1108) (by decide +kernel), List.mem_of_getElem? (i := 1109) (by decide +kernel)⟩
theorem lw_p54 : lw_okq (⟨"java/lang/Throwable", "fillInStackTrace", "(I)Ljava/lang/Throwable;"⟩, 6) := ⟨⟨by decide +kernel, by decide +kernel⟩, List.mem_of_getElem? (i := 1169) (by decide +kernel), List.mem_of_getElem? (i := 1167) (by decide +kernel), List.mem_of_getElem? (i := 1168) (by decide +kernel)⟩
theorem lw_p55 : lw_okq (⟨"SheetDoctorModel", "lay", "(J)V"⟩, 43) := ⟨⟨by decide +kernel, by decide +kernel⟩, List.mem_of_getElem? (i := 1222) (by decide +kernel), List.mem_of_getElem? (i := 1220) (by decide +kernel), List.mem_of_getElem? (i := 1221) (by decide +kernel)⟩
theorem lw_p56 : lw_okq (⟨"SheetDoctorModel", "cutAll", "()V"⟩, 43) := ⟨⟨by decide +kernel, by decide +kernel⟩, List.mem_of_getElem? (i := 1222) (by decide +kernel), List.mem_of_getElem? (i := 1369) (by decide +kernel), List.mem_of_getElem? (i := 1370) (by decide +kernel)⟩
theorem lw_p57 : lw_okq (⟨"SheetDoctorModel", "clearDraft", "(II)V"⟩, 43) := ⟨⟨by decide +kernel, by decide +kernel⟩, List.mem_of_getElem? (i := 1222) (by decide +kernel), List.mem_of_getElem? (i := 1386) (by decide +kernel), List.mem_of_getElem? (i := 1387) (by decide +kernel)⟩
theorem lw_p58 : lw_okq (⟨"SheetDoctorModel", "readE", "()V"⟩, 43) := ⟨⟨by decide +kernel, by decide +kernel⟩, List.mem_of_getElem? (i := 1222) (by decide +kernel), List.mem_of_getElem? (i := 1390) (by decide +kernel), List.mem_of_getElem? (i := 1391) (by decide +kernel)⟩
theorem lw_p59 : lw_okq (⟨"SheetDoctorModel", "readProduct", "()V"⟩, 43) := ⟨⟨by decide +kernel, by decide +kernel⟩, List.mem_of_getElem? (i := 1222) (by decide +kernel), List.mem_of_getElem? (i := 1394) (by decide +kernel), List.mem_of_getElem? (i := 1395) (by decide +kernel)⟩
theorem lw_p60 : lw_okq (⟨"SheetDoctorModel", "readPart", "()V"⟩, 43) := ⟨⟨by decide +kernel, by decide +kernel⟩, List.mem_of_getElem? (i := 1222) (by decide +kernel), List.mem_of_getElem? (i := 1398) (by decide +kernel), List.mem_of_getElem? (i := 1399) (by decide +kernel)⟩
theorem lw_p61 : lw_okq (⟨"SheetDoctorModel", "isPart", "()Z"⟩, 43) := ⟨⟨by decide +kernel, by decide +kernel⟩, List.mem_of_getElem? (i := 1222) (by decide +kernel), List.mem_of_getElem? (i := 1402) (by decide +kernel), List.mem_of_getElem? (i := 1403) (by decide +kernel)⟩
theorem lw_p62 : lw_okq (⟨"SheetDoctorModel", "isColumn", "()Z"⟩, 43) := ⟨⟨by decide +kernel, by decide +kernel⟩, List.mem_of_getElem? (i := 1222) (by decide +kernel), List.mem_of_getElem? (i := 1406) (by decide +kernel), List.mem_of_getElem? (i := 1407) (by decide +kernel)⟩
theorem lw_p63 : lw_okq (⟨"SheetDoctorModel", "isSum", "()Z"⟩, 43) := ⟨⟨by decide +kernel, by decide +kernel⟩, List.mem_of_getElem? (i := 1222) (by decide +kernel), List.mem_of_getElem? (i := 1411) (by decide +kernel), List.mem_of_getElem? (i := 1412) (by decide +kernel)⟩
def lw_privs_4 : List (MethodName × Nat) := [(⟨"SheetDoctor$Values", "pop", "()I"⟩, 9), (⟨"SheetDoctor$Values", "join", "(I)V"⟩, 9), (⟨"SheetDoctor$Values", "quotient", "(II)I"⟩, 9), (⟨"SheetDoctor", "stretchedFormula", "(II)LSheetDoctor$Formula;"⟩, 9), (⟨"SheetDoctor$Totals", "waysThrough", "(IILSheetDoctor$Formula;)I"⟩, 8), (⟨"SheetDoctor$Totals", "waysBy", "(II)I"⟩, 8), (⟨"java/lang/Throwable", "fillInStackTrace", "(I)Ljava/lang/Throwable;"⟩, 6), (⟨"SheetDoctorModel", "lay", "(J)V"⟩, 43), (⟨"SheetDoctorModel", "cutAll", "()V"⟩, 43), (⟨"SheetDoctorModel", "clearDraft", "(II)V"⟩, 43), (⟨"SheetDoctorModel", "readE", "()V"⟩, 43), (⟨"SheetDoctorModel", "readProduct", "()V"⟩, 43), (⟨"SheetDoctorModel", "readPart", "()V"⟩, 43), (⟨"SheetDoctorModel", "isPart", "()Z"⟩, 43), (⟨"SheetDoctorModel", "isColumn", "()Z"⟩, 43), (⟨"SheetDoctorModel", "isSum", "()Z"⟩, 43)]
theorem lw_r4 : ∀ q ∈ lw_privs_4, lw_okq q := List.forall_mem_cons.mpr ⟨lw_p48, List.forall_mem_cons.mpr ⟨lw_p49, List.forall_mem_cons.mpr ⟨lw_p50, List.forall_mem_cons.mpr ⟨lw_p51, List.forall_mem_cons.mpr ⟨lw_p52, List.forall_mem_cons.mpr ⟨lw_p53, List.forall_mem_cons.mpr ⟨lw_p54, List.forall_mem_cons.mpr ⟨lw_p55, List.forall_mem_cons.mpr ⟨lw_p56, List.forall_mem_cons.mpr ⟨lw_p57, List.forall_mem_cons.mpr ⟨lw_p58, List.forall_mem_cons.mpr ⟨lw_p59, List.forall_mem_cons.mpr ⟨lw_p60, List.forall_mem_cons.mpr ⟨lw_p61, List.forall_mem_cons.mpr ⟨lw_p62, List.forall_mem_cons.mpr ⟨lw_p63, fun _ h => absurd h List.not_mem_nil⟩⟩⟩⟩⟩⟩⟩⟩⟩⟩⟩⟩⟩⟩⟩⟩
theorem lw_p64 : lw_okq (⟨"SheetDoctorModel", "isSign", "(I)Z"⟩, 43) := ⟨⟨by decide +kernel, by decide +kernel⟩, List.mem_of_getElem? (i := 1222) (by decide +kernel), List.mem_of_getElem? (i := 1416) (by decide +kernel), List.mem_of_getElem? (i := 1417) (by decide +kernel)⟩
theorem lw_p65 : lw_okq (⟨"SheetDoctorModel", "wrong", "(I)V"⟩, 43) := ⟨⟨by decide +kernel, by decide +kernel⟩, List.mem_of_getElem? (i := 1222) (by decide +kernel), List.mem_of_getElem? (i := 1420) (by decide +kernel), List.mem_of_getElem? (i := 1421) (by decide +kernel)⟩
theorem lw_p66 : lw_okq (⟨"SheetDoctorModel", "add", "(IIII)V"⟩, 43) := ⟨⟨by decide +kernel, by decide +kernel⟩, List.mem_of_getElem? (i := 1222) (by decide +kernel), List.mem_of_getElem? (i := 1424) (by decide +kernel), List.mem_of_getElem? (i := 1425) (by decide +kernel)⟩
theorem lw_p67 : lw_okq (⟨"SheetDoctorModel", "takeSign", "(I)V"⟩, 43) := ⟨⟨by decide +kernel, by decide +kernel⟩, List.mem_of_getElem? (i := 1222) (by decide +kernel), List.mem_of_getElem? (i := 1429) (by decide +kernel), List.mem_of_getElem? (i := 1430) (by decide +kernel)⟩
theorem lw_p68 : lw_okq (⟨"SheetDoctorModel", "readRef", "(I)V"⟩, 43) := ⟨⟨by decide +kernel, by decide +kernel⟩, List.mem_of_getElem? (i := 1222) (by decide +kernel), List.mem_of_getElem? (i := 1433) (by decide +kernel), List.mem_of_getElem? (i := 1434) (by decide +kernel)⟩
theorem lw_p69 : lw_okq (⟨"SheetDoctorModel", "hasSign", "(I)Z"⟩, 43) := ⟨⟨by decide +kernel, by decide +kernel⟩, List.mem_of_getElem? (i := 1222) (by decide +kernel), List.mem_of_getElem? (i := 1437) (by decide +kernel), List.mem_of_getElem? (i := 1438) (by decide +kernel)⟩
theorem lw_p70 : lw_okq (⟨"SheetDoctorModel", "puts", "(I)V"⟩, 43) := ⟨⟨by decide +kernel, by decide +kernel⟩, List.mem_of_getElem? (i := 1222) (by decide +kernel), List.mem_of_getElem? (i := 1442) (by decide +kernel), List.mem_of_getElem? (i := 1443) (by decide +kernel)⟩
theorem lw_p71 : lw_okq (⟨"SheetDoctorModel", "copyRow", "(II)V"⟩, 43) := ⟨⟨by decide +kernel, by decide +kernel⟩, List.mem_of_getElem? (i := 1222) (by decide +kernel), List.mem_of_getElem? (i := 1446) (by decide +kernel), List.mem_of_getElem? (i := 1447) (by decide +kernel)⟩
theorem lw_p72 : lw_okq (⟨"SheetDoctorModel", "works", "()V"⟩, 43) := ⟨⟨by decide +kernel, by decide +kernel⟩, List.mem_of_getElem? (i := 1222) (by decide +kernel), List.mem_of_getElem? (i := 1450) (by decide +kernel), List.mem_of_getElem? (i := 1451) (by decide +kernel)⟩
theorem lw_p73 : lw_okq (⟨"SheetDoctorModel", "findReads", "()V"⟩, 43) := ⟨⟨by decide +kernel, by decide +kernel⟩, List.mem_of_getElem? (i := 1222) (by decide +kernel), List.mem_of_getElem? (i := 1454) (by decide +kernel), List.mem_of_getElem? (i := 1455) (by decide +kernel)⟩
theorem lw_p74 : lw_okq (⟨"SheetDoctorModel", "spanLast", "(II)I"⟩, 43) := ⟨⟨by decide +kernel, by decide +kernel⟩, List.mem_of_getElem? (i := 1222) (by decide +kernel), List.mem_of_getElem? (i := 1458) (by decide +kernel), List.mem_of_getElem? (i := 1459) (by decide +kernel)⟩
theorem lw_p75 : lw_okq (⟨"SheetDoctorModel", "isRing", "(I)Z"⟩, 43) := ⟨⟨by decide +kernel, by decide +kernel⟩, List.mem_of_getElem? (i := 1222) (by decide +kernel), List.mem_of_getElem? (i := 1468) (by decide +kernel), List.mem_of_getElem? (i := 1469) (by decide +kernel)⟩
theorem lw_p76 : lw_okq (⟨"SheetDoctorModel", "isReady", "(I)Z"⟩, 43) := ⟨⟨by decide +kernel, by decide +kernel⟩, List.mem_of_getElem? (i := 1222) (by decide +kernel), List.mem_of_getElem? (i := 1472) (by decide +kernel), List.mem_of_getElem? (i := 1473) (by decide +kernel)⟩
theorem lw_p77 : lw_okq (⟨"SheetDoctorModel", "work", "(I)V"⟩, 43) := ⟨⟨by decide +kernel, by decide +kernel⟩, List.mem_of_getElem? (i := 1222) (by decide +kernel), List.mem_of_getElem? (i := 1476) (by decide +kernel), List.mem_of_getElem? (i := 1477) (by decide +kernel)⟩
theorem lw_p78 : lw_okq (⟨"SheetDoctorModel", "goE", "()I"⟩, 43) := ⟨⟨by decide +kernel, by decide +kernel⟩, List.mem_of_getElem? (i := 1222) (by decide +kernel), List.mem_of_getElem? (i := 1480) (by decide +kernel), List.mem_of_getElem? (i := 1481) (by decide +kernel)⟩
theorem lw_p79 : lw_okq (⟨"SheetDoctorModel", "goProduct", "()I"⟩, 43) := ⟨⟨by decide +kernel, by decide +kernel⟩, List.mem_of_getElem? (i := 1222) (by decide +kernel), List.mem_of_getElem? (i := 1484) (by decide +kernel), List.mem_of_getElem? (i := 1485) (by decide +kernel)⟩
def lw_privs_5 : List (MethodName × Nat) := [(⟨"SheetDoctorModel", "isSign", "(I)Z"⟩, 43), (⟨"SheetDoctorModel", "wrong", "(I)V"⟩, 43), (⟨"SheetDoctorModel", "add", "(IIII)V"⟩, 43), (⟨"SheetDoctorModel", "takeSign", "(I)V"⟩, 43), (⟨"SheetDoctorModel", "readRef", "(I)V"⟩, 43), (⟨"SheetDoctorModel", "hasSign", "(I)Z"⟩, 43), (⟨"SheetDoctorModel", "puts", "(I)V"⟩, 43), (⟨"SheetDoctorModel", "copyRow", "(II)V"⟩, 43), (⟨"SheetDoctorModel", "works", "()V"⟩, 43), (⟨"SheetDoctorModel", "findReads", "()V"⟩, 43), (⟨"SheetDoctorModel", "spanLast", "(II)I"⟩, 43), (⟨"SheetDoctorModel", "isRing", "(I)Z"⟩, 43), (⟨"SheetDoctorModel", "isReady", "(I)Z"⟩, 43), (⟨"SheetDoctorModel", "work", "(I)V"⟩, 43), (⟨"SheetDoctorModel", "goE", "()I"⟩, 43), (⟨"SheetDoctorModel", "goProduct", "()I"⟩, 43)]
theorem lw_r5 : ∀ q ∈ lw_privs_5, lw_okq q := List.forall_mem_cons.mpr ⟨lw_p64, List.forall_mem_cons.mpr ⟨lw_p65, List.forall_mem_cons.mpr ⟨lw_p66, List.forall_mem_cons.mpr ⟨lw_p67, List.forall_mem_cons.mpr ⟨lw_p68, List.forall_mem_cons.mpr ⟨lw_p69, List.forall_mem_cons.mpr ⟨lw_p70, List.forall_mem_cons.mpr ⟨lw_p71, List.forall_mem_cons.mpr ⟨lw_p72, List.forall_mem_cons.mpr ⟨lw_p73, List.forall_mem_cons.mpr ⟨lw_p74, List.forall_mem_cons.mpr ⟨lw_p75, List.forall_mem_cons.mpr ⟨lw_p76, List.forall_mem_cons.mpr ⟨lw_p77, List.forall_mem_cons.mpr ⟨lw_p78, List.forall_mem_cons.mpr ⟨lw_p79, fun _ h => absurd h List.not_mem_nil⟩⟩⟩⟩⟩⟩⟩⟩⟩⟩⟩⟩⟩⟩⟩⟩
theorem lw_p80 : lw_okq (⟨"SheetDoctorModel", "goPart", "()I"⟩, 43) := ⟨⟨by decide +kernel, by decide +kernel⟩, List.mem_of_getElem? (i := 1222) (by decide +kernel), List.mem_of_getElem? (i := 1488) (by decide +kernel), List.mem_of_getElem? (i := 1489) (by decide +kernel)⟩
theorem lw_p81 : lw_okq (⟨"SheetDoctorModel", "meets", "(I)I"⟩, 43) := ⟨⟨by decide +kernel, by decide +kernel⟩, List.mem_of_getElem? (i := 1222) (by decide +kernel), List.mem_of_getElem? (i := 1492) (by decide +kernel), List.mem_of_getElem? (i := 1493) (by decide +kernel)⟩
theorem lw_p82 : lw_okq (⟨"SheetDoctorModel", "sumOf", "(II)I"⟩, 43) := ⟨⟨by decide +kernel, by decide +kernel⟩, List.mem_of_getElem? (i := 1222) (by decide +kernel), List.mem_of_getElem? (i := 1496) (by decide +kernel), List.mem_of_getElem? (i := 1497) (by decide +kernel)⟩
theorem lw_p83 : lw_okq (⟨"SheetDoctorModel", "isNext", "(I)Z"⟩, 43) := ⟨⟨by decide +kernel, by decide +kernel⟩, List.mem_of_getElem? (i := 1222) (by decide +kernel), List.mem_of_getElem? (i := 1500) (by decide +kernel), List.mem_of_getElem? (i := 1501) (by decide +kernel)⟩
theorem lw_p84 : lw_okq (⟨"SheetDoctorModel", "unitE", "()V"⟩, 43) := ⟨⟨by decide +kernel, by decide +kernel⟩, List.mem_of_getElem? (i := 1222) (by decide +kernel), List.mem_of_getElem? (i := 1504) (by decide +kernel), List.mem_of_getElem? (i := 1505) (by decide +kernel)⟩
theorem lw_p85 : lw_okq (⟨"SheetDoctorModel", "unitProduct", "()V"⟩, 43) := ⟨⟨by decide +kernel, by decide +kernel⟩, List.mem_of_getElem? (i := 1222) (by decide +kernel), List.mem_of_getElem? (i := 1508) (by decide +kernel), List.mem_of_getElem? (i := 1509) (by decide +kernel)⟩
theorem lw_p86 : lw_okq (⟨"SheetDoctorModel", "unitPart", "()V"⟩, 43) := ⟨⟨by decide +kernel, by decide +kernel⟩, List.mem_of_getElem? (i := 1222) (by decide +kernel), List.mem_of_getElem? (i := 1512) (by decide +kernel), List.mem_of_getElem? (i := 1513) (by decide +kernel)⟩
theorem lw_p87 : lw_okq (⟨"SheetDoctorModel", "pushUnit", "(III)V"⟩, 43) := ⟨⟨by decide +kernel, by decide +kernel⟩, List.mem_of_getElem? (i := 1222) (by decide +kernel), List.mem_of_getElem? (i := 1516) (by decide +kernel), List.mem_of_getElem? (i := 1517) (by decide +kernel)⟩
theorem lw_p88 : lw_okq (⟨"SheetDoctorModel", "pushUnitOf", "(I)V"⟩, 43) := ⟨⟨by decide +kernel, by decide +kernel⟩, List.mem_of_getElem? (i := 1222) (by decide +kernel), List.mem_of_getElem? (i := 1520) (by decide +kernel), List.mem_of_getElem? (i := 1521) (by decide +kernel)⟩
theorem lw_p89 : lw_okq (⟨"SheetDoctorModel", "unitSum", "(II)V"⟩, 43) := ⟨⟨by decide +kernel, by decide +kernel⟩, List.mem_of_getElem? (i := 1222) (by decide +kernel), List.mem_of_getElem? (i := 1524) (by decide +kernel), List.mem_of_getElem? (i := 1525) (by decide +kernel)⟩
theorem lw_p90 : lw_okq (⟨"SheetDoctorModel", "isUnitSame", "(II)Z"⟩, 43) := ⟨⟨by decide +kernel, by decide +kernel⟩, List.mem_of_getElem? (i := 1222) (by decide +kernel), List.mem_of_getElem? (i := 1528) (by decide +kernel), List.mem_of_getElem? (i := 1529) (by decide +kernel)⟩
theorem lw_p91 : lw_okq (⟨"SheetDoctorModel", "looksTotal", "(I)Z"⟩, 43) := ⟨⟨by decide +kernel, by decide +kernel⟩, List.mem_of_getElem? (i := 1222) (by decide +kernel), List.mem_of_getElem? (i := 1532) (by decide +kernel), List.mem_of_getElem? (i := 1533) (by decide +kernel)⟩
theorem lw_p92 : lw_okq (⟨"SheetDoctorModel", "countWays", "(I)V"⟩, 43) := ⟨⟨by decide +kernel, by decide +kernel⟩, List.mem_of_getElem? (i := 1222) (by decide +kernel), List.mem_of_getElem? (i := 1536) (by decide +kernel), List.mem_of_getElem? (i := 1537) (by decide +kernel)⟩
theorem lw_p93 : lw_okq (⟨"SheetDoctorModel", "addWays", "(II)V"⟩, 43) := ⟨⟨by decide +kernel, by decide +kernel⟩, List.mem_of_getElem? (i := 1222) (by decide +kernel), List.mem_of_getElem? (i := 1540) (by decide +kernel), List.mem_of_getElem? (i := 1541) (by decide +kernel)⟩
theorem lw_p94 : lw_okq (⟨"SheetDoctorModel", "addWay", "(III)V"⟩, 43) := ⟨⟨by decide +kernel, by decide +kernel⟩, List.mem_of_getElem? (i := 1222) (by decide +kernel), List.mem_of_getElem? (i := 1544) (by decide +kernel), List.mem_of_getElem? (i := 1545) (by decide +kernel)⟩
theorem lw_p95 : lw_okq (⟨"SheetDoctorModel", "findFamilies", "()V"⟩, 43) := ⟨⟨by decide +kernel, by decide +kernel⟩, List.mem_of_getElem? (i := 1222) (by decide +kernel), List.mem_of_getElem? (i := 1548) (by decide +kernel), List.mem_of_getElem? (i := 1549) (by decide +kernel)⟩
def lw_privs_6 : List (MethodName × Nat) := [(⟨"SheetDoctorModel", "goPart", "()I"⟩, 43), (⟨"SheetDoctorModel", "meets", "(I)I"⟩, 43), (⟨"SheetDoctorModel", "sumOf", "(II)I"⟩, 43), (⟨"SheetDoctorModel", "isNext", "(I)Z"⟩, 43), (⟨"SheetDoctorModel", "unitE", "()V"⟩, 43), (⟨"SheetDoctorModel", "unitProduct", "()V"⟩, 43), (⟨"SheetDoctorModel", "unitPart", "()V"⟩, 43), (⟨"SheetDoctorModel", "pushUnit", "(III)V"⟩, 43), (⟨"SheetDoctorModel", "pushUnitOf", "(I)V"⟩, 43), (⟨"SheetDoctorModel", "unitSum", "(II)V"⟩, 43), (⟨"SheetDoctorModel", "isUnitSame", "(II)Z"⟩, 43), (⟨"SheetDoctorModel", "looksTotal", "(I)Z"⟩, 43), (⟨"SheetDoctorModel", "countWays", "(I)V"⟩, 43), (⟨"SheetDoctorModel", "addWays", "(II)V"⟩, 43), (⟨"SheetDoctorModel", "addWay", "(III)V"⟩, 43), (⟨"SheetDoctorModel", "findFamilies", "()V"⟩, 43)]
theorem lw_r6 : ∀ q ∈ lw_privs_6, lw_okq q := List.forall_mem_cons.mpr ⟨lw_p80, List.forall_mem_cons.mpr ⟨lw_p81, List.forall_mem_cons.mpr ⟨lw_p82, List.forall_mem_cons.mpr ⟨lw_p83, List.forall_mem_cons.mpr ⟨lw_p84, List.forall_mem_cons.mpr ⟨lw_p85, List.forall_mem_cons.mpr ⟨lw_p86, List.forall_mem_cons.mpr ⟨lw_p87, List.forall_mem_cons.mpr ⟨lw_p88, List.forall_mem_cons.mpr ⟨lw_p89, List.forall_mem_cons.mpr ⟨lw_p90, List.forall_mem_cons.mpr ⟨lw_p91, List.forall_mem_cons.mpr ⟨lw_p92, List.forall_mem_cons.mpr ⟨lw_p93, List.forall_mem_cons.mpr ⟨lw_p94, List.forall_mem_cons.mpr ⟨lw_p95, fun _ h => absurd h List.not_mem_nil⟩⟩⟩⟩⟩⟩⟩⟩⟩⟩⟩⟩⟩⟩⟩⟩
theorem lw_p96 : lw_okq (⟨"SheetDoctorModel", "isAlike", "(II)Z"⟩, 43) := ⟨⟨by decide +kernel, by decide +kernel⟩, List.mem_of_getElem? (i := 1222) (by decide +kernel), List.mem_of_getElem? (i := 1552) (by decide +kernel), List.mem_of_getElem? (i := 1553) (by decide +kernel)⟩
theorem lw_p97 : lw_okq (⟨"SheetDoctorModel", "makesCopy", "(II)Z"⟩, 43) := ⟨⟨by decide +kernel, by decide +kernel⟩, List.mem_of_getElem? (i := 1222) (by decide +kernel), List.mem_of_getElem? (i := 1568) (by decide +kernel), List.mem_of_getElem? (i := 1569) (by decide +kernel)⟩
theorem lw_p98 : lw_okq (⟨"SheetDoctorModel", "oddBy", "(I)I"⟩, 43) := ⟨⟨by decide +kernel, by decide +kernel⟩, List.mem_of_getElem? (i := 1222) (by decide +kernel), List.mem_of_getElem? (i := 1584) (by decide +kernel), List.mem_of_getElem? (i := 1585) (by decide +kernel)⟩
theorem lw_p99 : lw_okq (⟨"SheetDoctorModel", "familyAt", "(II)I"⟩, 43) := ⟨⟨by decide +kernel, by decide +kernel⟩, List.mem_of_getElem? (i := 1222) (by decide +kernel), List.mem_of_getElem? (i := 1588) (by decide +kernel), List.mem_of_getElem? (i := 1589) (by decide +kernel)⟩
theorem lw_p100 : lw_okq (⟨"SheetDoctorModel", "finds", "(III)V"⟩, 43) := ⟨⟨by decide +kernel, by decide +kernel⟩, List.mem_of_getElem? (i := 1222) (by decide +kernel), List.mem_of_getElem? (i := 1592) (by decide +kernel), List.mem_of_getElem? (i := 1593) (by decide +kernel)⟩
theorem lw_p101 : lw_okq (⟨"SheetDoctorModel", "findShort", "(I)V"⟩, 43) := ⟨⟨by decide +kernel, by decide +kernel⟩, List.mem_of_getElem? (i := 1222) (by decide +kernel), List.mem_of_getElem? (i := 1596) (by decide +kernel), List.mem_of_getElem? (i := 1597) (by decide +kernel)⟩
theorem lw_p102 : lw_okq (⟨"SheetDoctorModel", "shortBy", "(IIZ)I"⟩, 43) := ⟨⟨by decide +kernel, by decide +kernel⟩, List.mem_of_getElem? (i := 1222) (by decide +kernel), List.mem_of_getElem? (i := 1600) (by decide +kernel), List.mem_of_getElem? (i := 1601) (by decide +kernel)⟩
theorem lw_p103 : lw_okq (⟨"SheetDoctorModel", "leastTwice", "(I)I"⟩, 43) := ⟨⟨by decide +kernel, by decide +kernel⟩, List.mem_of_getElem? (i := 1222) (by decide +kernel), List.mem_of_getElem? (i := 1604) (by decide +kernel), List.mem_of_getElem? (i := 1605) (by decide +kernel)⟩
theorem lw_p104 : lw_okq (⟨"SheetDoctorModel", "readers", "(I)I"⟩, 43) := ⟨⟨by decide +kernel, by decide +kernel⟩, List.mem_of_getElem? (i := 1222) (by decide +kernel), List.mem_of_getElem? (i := 1608) (by decide +kernel), List.mem_of_getElem? (i := 1609) (by decide +kernel)⟩
theorem lw_p105 : lw_okq (⟨"SheetDoctorModel", "remembers", "()V"⟩, 43) := ⟨⟨by decide +kernel, by decide +kernel⟩, List.mem_of_getElem? (i := 1222) (by decide +kernel), List.mem_of_getElem? (i := 1620) (by decide +kernel), List.mem_of_getElem? (i := 1621) (by decide +kernel)⟩
theorem lw_p106 : lw_okq (⟨"SheetDoctorModel", "tells", "()I"⟩, 43) := ⟨⟨by decide +kernel, by decide +kernel⟩, List.mem_of_getElem? (i := 1222) (by decide +kernel), List.mem_of_getElem? (i := 1624) (by decide +kernel), List.mem_of_getElem? (i := 1625) (by decide +kernel)⟩
theorem lw_p107 : lw_okq (⟨"SheetDoctorModel", "sumAt", "(II)I"⟩, 43) := ⟨⟨by decide +kernel, by decide +kernel⟩, List.mem_of_getElem? (i := 1222) (by decide +kernel), List.mem_of_getElem? (i := 1632) (by decide +kernel), List.mem_of_getElem? (i := 1633) (by decide +kernel)⟩
theorem lw_p108 : lw_okq (⟨"SheetDoctorModel", "readMany", "(I)I"⟩, 43) := ⟨⟨by decide +kernel, by decide +kernel⟩, List.mem_of_getElem? (i := 1222) (by decide +kernel), List.mem_of_getElem? (i := 1648) (by decide +kernel), List.mem_of_getElem? (i := 1649) (by decide +kernel)⟩
def lw_privs_7 : List (MethodName × Nat) := [(⟨"SheetDoctorModel", "isAlike", "(II)Z"⟩, 43), (⟨"SheetDoctorModel", "makesCopy", "(II)Z"⟩, 43), (⟨"SheetDoctorModel", "oddBy", "(I)I"⟩, 43), (⟨"SheetDoctorModel", "familyAt", "(II)I"⟩, 43), (⟨"SheetDoctorModel", "finds", "(III)V"⟩, 43), (⟨"SheetDoctorModel", "findShort", "(I)V"⟩, 43), (⟨"SheetDoctorModel", "shortBy", "(IIZ)I"⟩, 43), (⟨"SheetDoctorModel", "leastTwice", "(I)I"⟩, 43), (⟨"SheetDoctorModel", "readers", "(I)I"⟩, 43), (⟨"SheetDoctorModel", "remembers", "()V"⟩, 43), (⟨"SheetDoctorModel", "tells", "()I"⟩, 43), (⟨"SheetDoctorModel", "sumAt", "(II)I"⟩, 43), (⟨"SheetDoctorModel", "readMany", "(I)I"⟩, 43)]
theorem lw_r7 : ∀ q ∈ lw_privs_7, lw_okq q := List.forall_mem_cons.mpr ⟨lw_p96, List.forall_mem_cons.mpr ⟨lw_p97, List.forall_mem_cons.mpr ⟨lw_p98, List.forall_mem_cons.mpr ⟨lw_p99, List.forall_mem_cons.mpr ⟨lw_p100, List.forall_mem_cons.mpr ⟨lw_p101, List.forall_mem_cons.mpr ⟨lw_p102, List.forall_mem_cons.mpr ⟨lw_p103, List.forall_mem_cons.mpr ⟨lw_p104, List.forall_mem_cons.mpr ⟨lw_p105, List.forall_mem_cons.mpr ⟨lw_p106, List.forall_mem_cons.mpr ⟨lw_p107, List.forall_mem_cons.mpr ⟨lw_p108, fun _ h => absurd h List.not_mem_nil⟩⟩⟩⟩⟩⟩⟩⟩⟩⟩⟩⟩⟩
def lw_privs : List (MethodName × Nat) := lw_privs_1 ++ (lw_privs_2 ++ (lw_privs_3 ++ (lw_privs_4 ++ (lw_privs_5 ++ (lw_privs_6 ++ (lw_privs_7))))))
def lw_tbl : List Cond := k2_sels lw_privs ++ tables_1
theorem lw_privs_ok : ∀ q ∈ lw_privs, lw_okq q := by
  show ∀ q ∈ lw_privs_1 ++ (lw_privs_2 ++ (lw_privs_3 ++ (lw_privs_4 ++ (lw_privs_5 ++ (lw_privs_6 ++ (lw_privs_7)))))), lw_okq q
  exact List.forall_mem_append.mpr ⟨lw_r1, List.forall_mem_append.mpr ⟨lw_r2, List.forall_mem_append.mpr ⟨lw_r3, List.forall_mem_append.mpr ⟨lw_r4, List.forall_mem_append.mpr ⟨lw_r5, List.forall_mem_append.mpr ⟨lw_r6, lw_r7⟩⟩⟩⟩⟩⟩
end
section
def RX0 : String := "SheetDoctor$Cell"
def TX0 : u_T := fun k => match k with
  | 0 => ("SheetDoctor$Cell", "kind", "I", true)
  | 1 => ("SheetDoctor$Cell", "number", "I", true)
  | 2 => ("SheetDoctor$Cell", "formula", "LSheetDoctor$Formula;", true)
  | 3 => ("SheetDoctor$Cell", "unitA", "I", true)
  | 4 => ("SheetDoctor$Cell", "unitB", "I", true)
  | _ => ("SheetDoctor$Cell", "unitC", "I", true)
def tyX0 : Nat → FieldType := fun k => match k with
  | 0 => .int
  | 1 => .int
  | 2 => .object "SheetDoctor$Formula"
  | 3 => .int
  | 4 => .int
  | _ => .int
theorem nmX0 : ∀ a, a < 6 → ∀ b, b < 6 → a ≠ b → (TX0 a).2.1 ≠ (TX0 b).2.1 := by decide +kernel
theorem tyX0_ok : ∀ k, k < 6 → parseFieldDescriptor (TX0 k).2.2.1 = some (tyX0 k) := by decide +kernel
def RX1 : String := "SheetDoctor$Changes"
def TX1 : u_T := fun k => match k with
  | 0 => ("SheetDoctor$Changes", "values", "LSheetDoctor$Values;", true)
  | 1 => ("SheetDoctor$Changes", "oldValue", "[I", true)
  | 2 => ("SheetDoctor$Changes", "oldError", "[I", true)
  | 3 => ("SheetDoctor$Changes", "told", "[I", true)
  | _ => ("SheetDoctor$Changes", "size", "I", false)
def tyX1 : Nat → FieldType := fun k => match k with
  | 0 => .object "SheetDoctor$Values"
  | 1 => .array .int
  | 2 => .array .int
  | 3 => .array .int
  | _ => .int
theorem nmX1 : ∀ a, a < 5 → ∀ b, b < 5 → a ≠ b → (TX1 a).2.1 ≠ (TX1 b).2.1 := by decide +kernel
theorem tyX1_ok : ∀ k, k < 5 → parseFieldDescriptor (TX1 k).2.2.1 = some (tyX1 k) := by decide +kernel
def RX2 : String := "SheetDoctor$Families"
def TX2 : u_T := fun k => match k with
  | 0 => ("SheetDoctor$Families", "sheet", "LSheetDoctor$Sheet;", true)
  | 1 => ("SheetDoctor$Families", "family", "[I", true)
  | 2 => ("SheetDoctor$Families", "eldest", "[I", true)
  | 3 => ("SheetDoctor$Families", "size", "I", false)
  | _ => ("SheetDoctor$Families", "version", "I", false)
def tyX2 : Nat → FieldType := fun k => match k with
  | 0 => .object "SheetDoctor$Sheet"
  | 1 => .array .int
  | 2 => .array .int
  | 3 => .int
  | _ => .int
theorem nmX2 : ∀ a, a < 5 → ∀ b, b < 5 → a ≠ b → (TX2 a).2.1 ≠ (TX2 b).2.1 := by decide +kernel
theorem tyX2_ok : ∀ k, k < 5 → parseFieldDescriptor (TX2 k).2.2.1 = some (tyX2 k) := by decide +kernel
def RX3 : String := "SheetDoctor$Findings"
def TX3 : u_T := fun k => match k with
  | 0 => ("SheetDoctor$Findings", "sheet", "LSheetDoctor$Sheet;", true)
  | 1 => ("SheetDoctor$Findings", "links", "LSheetDoctor$Links;", true)
  | 2 => ("SheetDoctor$Findings", "families", "LSheetDoctor$Families;", true)
  | 3 => ("SheetDoctor$Findings", "units", "LSheetDoctor$Units;", true)
  | 4 => ("SheetDoctor$Findings", "totals", "LSheetDoctor$Totals;", true)
  | 5 => ("SheetDoctor$Findings", "told", "[I", true)
  | _ => ("SheetDoctor$Findings", "size", "I", false)
def tyX3 : Nat → FieldType := fun k => match k with
  | 0 => .object "SheetDoctor$Sheet"
  | 1 => .object "SheetDoctor$Links"
  | 2 => .object "SheetDoctor$Families"
  | 3 => .object "SheetDoctor$Units"
  | 4 => .object "SheetDoctor$Totals"
  | 5 => .array .int
  | _ => .int
theorem nmX3 : ∀ a, a < 7 → ∀ b, b < 7 → a ≠ b → (TX3 a).2.1 ≠ (TX3 b).2.1 := by decide +kernel
theorem tyX3_ok : ∀ k, k < 7 → parseFieldDescriptor (TX3 k).2.2.1 = some (tyX3 k) := by decide +kernel
def RX4 : String := "SheetDoctor$Formula"
def TX4 : u_T := fun k => match k with
  | 0 => ("SheetDoctor$Formula", "steps", "[I", true)
  | 1 => ("SheetDoctor$Formula", "first", "[I", true)
  | _ => ("SheetDoctor$Formula", "last", "[I", true)
def tyX4 : Nat → FieldType := fun k => match k with
  | 0 => .array .int
  | 1 => .array .int
  | _ => .array .int
theorem nmX4 : ∀ a, a < 3 → ∀ b, b < 3 → a ≠ b → (TX4 a).2.1 ≠ (TX4 b).2.1 := by decide +kernel
theorem tyX4_ok : ∀ k, k < 3 → parseFieldDescriptor (TX4 k).2.2.1 = some (tyX4 k) := by decide +kernel
def RX5 : String := "SheetDoctor$Links"
def TX5 : u_T := fun k => match k with
  | 0 => ("SheetDoctor$Links", "sheet", "LSheetDoctor$Sheet;", true)
  | 1 => ("SheetDoctor$Links", "formulas", "[I", true)
  | 2 => ("SheetDoctor$Links", "formulaCount", "I", false)
  | 3 => ("SheetDoctor$Links", "formulaSet", "[J", true)
  | 4 => ("SheetDoctor$Links", "reads", "[J", true)
  | 5 => ("SheetDoctor$Links", "reach", "[J", true)
  | 6 => ("SheetDoctor$Links", "ring", "[Z", true)
  | 7 => ("SheetDoctor$Links", "waiting", "[I", true)
  | 8 => ("SheetDoctor$Links", "order", "[I", true)
  | 9 => ("SheetDoctor$Links", "ordered", "I", false)
  | 10 => ("SheetDoctor$Links", "span", "[I", true)
  | _ => ("SheetDoctor$Links", "version", "I", false)
def tyX5 : Nat → FieldType := fun k => match k with
  | 0 => .object "SheetDoctor$Sheet"
  | 1 => .array .int
  | 2 => .int
  | 3 => .array .long
  | 4 => .array .long
  | 5 => .array .long
  | 6 => .array .boolean
  | 7 => .array .int
  | 8 => .array .int
  | 9 => .int
  | 10 => .array .int
  | _ => .int
theorem nmX5 : ∀ a, a < 12 → ∀ b, b < 12 → a ≠ b → (TX5 a).2.1 ≠ (TX5 b).2.1 := by decide +kernel
theorem tyX5_ok : ∀ k, k < 12 → parseFieldDescriptor (TX5 k).2.2.1 = some (tyX5 k) := by decide +kernel
def RX6 : String := "SheetDoctor$Sheet"
def TX6 : u_T := fun k => match k with
  | 0 => ("SheetDoctor$Sheet", "blank", "LSheetDoctor$Cell;", true)
  | 1 => ("SheetDoctor$Sheet", "cells", "[LSheetDoctor$Cell;", true)
  | 2 => ("SheetDoctor$Sheet", "kept", "[Z", true)
  | 3 => ("SheetDoctor$Sheet", "pastPlaces", "[I", true)
  | 4 => ("SheetDoctor$Sheet", "pastCells", "[LSheetDoctor$Cell;", true)
  | 5 => ("SheetDoctor$Sheet", "depth", "I", false)
  | _ => ("SheetDoctor$Sheet", "version", "I", false)
def tyX6 : Nat → FieldType := fun k => match k with
  | 0 => .object "SheetDoctor$Cell"
  | 1 => .array (.object "SheetDoctor$Cell")
  | 2 => .array .boolean
  | 3 => .array .int
  | 4 => .array (.object "SheetDoctor$Cell")
  | 5 => .int
  | _ => .int
theorem nmX6 : ∀ a, a < 7 → ∀ b, b < 7 → a ≠ b → (TX6 a).2.1 ≠ (TX6 b).2.1 := by decide +kernel
theorem tyX6_ok : ∀ k, k < 7 → parseFieldDescriptor (TX6 k).2.2.1 = some (tyX6 k) := by decide +kernel
def RX7 : String := "SheetDoctor$Tape"
def TX7 : u_T := fun k => match k with
  | 0 => ("SheetDoctor$Tape", "text", "[C", true)
  | 1 => ("SheetDoctor$Tape", "length", "I", false)
  | 2 => ("SheetDoctor$Tape", "home", "I", false)
  | 3 => ("SheetDoctor$Tape", "kinds", "[I", true)
  | 4 => ("SheetDoctor$Tape", "amounts", "[I", true)
  | 5 => ("SheetDoctor$Tape", "starts", "[I", true)
  | 6 => ("SheetDoctor$Tape", "tokens", "I", false)
  | 7 => ("SheetDoctor$Tape", "token", "I", false)
  | 8 => ("SheetDoctor$Tape", "fault", "I", false)
  | 9 => ("SheetDoctor$Tape", "steps", "[I", true)
  | 10 => ("SheetDoctor$Tape", "first", "[I", true)
  | 11 => ("SheetDoctor$Tape", "last", "[I", true)
  | _ => ("SheetDoctor$Tape", "size", "I", false)
def tyX7 : Nat → FieldType := fun k => match k with
  | 0 => .array .char
  | 1 => .int
  | 2 => .int
  | 3 => .array .int
  | 4 => .array .int
  | 5 => .array .int
  | 6 => .int
  | 7 => .int
  | 8 => .int
  | 9 => .array .int
  | 10 => .array .int
  | 11 => .array .int
  | _ => .int
theorem nmX7 : ∀ a, a < 13 → ∀ b, b < 13 → a ≠ b → (TX7 a).2.1 ≠ (TX7 b).2.1 := by decide +kernel
theorem tyX7_ok : ∀ k, k < 13 → parseFieldDescriptor (TX7 k).2.2.1 = some (tyX7 k) := by decide +kernel
def RX8 : String := "SheetDoctor$Totals"
def TX8 : u_T := fun k => match k with
  | 0 => ("SheetDoctor$Totals", "sheet", "LSheetDoctor$Sheet;", true)
  | 1 => ("SheetDoctor$Totals", "links", "LSheetDoctor$Links;", true)
  | 2 => ("SheetDoctor$Totals", "total", "[Z", true)
  | 3 => ("SheetDoctor$Totals", "found", "[I", true)
  | 4 => ("SheetDoctor$Totals", "span", "[I", true)
  | 5 => ("SheetDoctor$Totals", "once", "[J", true)
  | 6 => ("SheetDoctor$Totals", "twice", "[J", true)
  | _ => ("SheetDoctor$Totals", "version", "I", false)
def tyX8 : Nat → FieldType := fun k => match k with
  | 0 => .object "SheetDoctor$Sheet"
  | 1 => .object "SheetDoctor$Links"
  | 2 => .array .boolean
  | 3 => .array .int
  | 4 => .array .int
  | 5 => .array .long
  | 6 => .array .long
  | _ => .int
theorem nmX8 : ∀ a, a < 8 → ∀ b, b < 8 → a ≠ b → (TX8 a).2.1 ≠ (TX8 b).2.1 := by decide +kernel
theorem tyX8_ok : ∀ k, k < 8 → parseFieldDescriptor (TX8 k).2.2.1 = some (tyX8 k) := by decide +kernel
def RX9 : String := "SheetDoctor$Units"
def TX9 : u_T := fun k => match k with
  | 0 => ("SheetDoctor$Units", "sheet", "LSheetDoctor$Sheet;", true)
  | 1 => ("SheetDoctor$Units", "links", "LSheetDoctor$Links;", true)
  | 2 => ("SheetDoctor$Units", "exponents", "[I", true)
  | 3 => ("SheetDoctor$Units", "clash", "[Z", true)
  | 4 => ("SheetDoctor$Units", "span", "[I", true)
  | 5 => ("SheetDoctor$Units", "open", "[I", true)
  | 6 => ("SheetDoctor$Units", "openCount", "I", false)
  | 7 => ("SheetDoctor$Units", "clashing", "Z", false)
  | _ => ("SheetDoctor$Units", "version", "I", false)
def tyX9 : Nat → FieldType := fun k => match k with
  | 0 => .object "SheetDoctor$Sheet"
  | 1 => .object "SheetDoctor$Links"
  | 2 => .array .int
  | 3 => .array .boolean
  | 4 => .array .int
  | 5 => .array .int
  | 6 => .int
  | 7 => .boolean
  | _ => .int
theorem nmX9 : ∀ a, a < 9 → ∀ b, b < 9 → a ≠ b → (TX9 a).2.1 ≠ (TX9 b).2.1 := by decide +kernel
theorem tyX9_ok : ∀ k, k < 9 → parseFieldDescriptor (TX9 k).2.2.1 = some (tyX9 k) := by decide +kernel
def RX10 : String := "SheetDoctor$Values"
def TX10 : u_T := fun k => match k with
  | 0 => ("SheetDoctor$Values", "sheet", "LSheetDoctor$Sheet;", true)
  | 1 => ("SheetDoctor$Values", "links", "LSheetDoctor$Links;", true)
  | 2 => ("SheetDoctor$Values", "value", "[I", true)
  | 3 => ("SheetDoctor$Values", "error", "[I", true)
  | 4 => ("SheetDoctor$Values", "span", "[I", true)
  | 5 => ("SheetDoctor$Values", "open", "[I", true)
  | 6 => ("SheetDoctor$Values", "openCount", "I", false)
  | 7 => ("SheetDoctor$Values", "wrong", "I", false)
  | _ => ("SheetDoctor$Values", "version", "I", false)
def tyX10 : Nat → FieldType := fun k => match k with
  | 0 => .object "SheetDoctor$Sheet"
  | 1 => .object "SheetDoctor$Links"
  | 2 => .array .int
  | 3 => .array .int
  | 4 => .array .int
  | 5 => .array .int
  | 6 => .int
  | 7 => .int
  | _ => .int
theorem nmX10 : ∀ a, a < 9 → ∀ b, b < 9 → a ≠ b → (TX10 a).2.1 ≠ (TX10 b).2.1 := by decide +kernel
theorem tyX10_ok : ∀ k, k < 9 → parseFieldDescriptor (TX10 k).2.2.1 = some (tyX10 k) := by decide +kernel
def RX11 : String := "SheetDoctor"
def TX11 : u_T := fun k => match k with
  | 0 => ("SheetDoctor", "tape", "LSheetDoctor$Tape;", true)
  | 1 => ("SheetDoctor", "sheet", "LSheetDoctor$Sheet;", true)
  | 2 => ("SheetDoctor", "links", "LSheetDoctor$Links;", true)
  | 3 => ("SheetDoctor", "values", "LSheetDoctor$Values;", true)
  | 4 => ("SheetDoctor", "families", "LSheetDoctor$Families;", true)
  | 5 => ("SheetDoctor", "units", "LSheetDoctor$Units;", true)
  | 6 => ("SheetDoctor", "totals", "LSheetDoctor$Totals;", true)
  | 7 => ("SheetDoctor", "findings", "LSheetDoctor$Findings;", true)
  | _ => ("SheetDoctor", "changes", "LSheetDoctor$Changes;", true)
def tyX11 : Nat → FieldType := fun k => match k with
  | 0 => .object "SheetDoctor$Tape"
  | 1 => .object "SheetDoctor$Sheet"
  | 2 => .object "SheetDoctor$Links"
  | 3 => .object "SheetDoctor$Values"
  | 4 => .object "SheetDoctor$Families"
  | 5 => .object "SheetDoctor$Units"
  | 6 => .object "SheetDoctor$Totals"
  | 7 => .object "SheetDoctor$Findings"
  | _ => .object "SheetDoctor$Changes"
theorem nmX11 : ∀ a, a < 9 → ∀ b, b < 9 → a ≠ b → (TX11 a).2.1 ≠ (TX11 b).2.1 := by decide +kernel
theorem tyX11_ok : ∀ k, k < 9 → parseFieldDescriptor (TX11 k).2.2.1 = some (tyX11 k) := by decide +kernel
def RX12 : String := "SheetDoctorModel"
def TX12 : u_T := fun k => match k with
  | 0 => ("SheetDoctorModel", "thrown", "I", false)
  | 1 => ("SheetDoctorModel", "tape", "[I", true)
  | 2 => ("SheetDoctorModel", "taped", "I", false)
  | 3 => ("SheetDoctorModel", "size", "I", false)
  | 4 => ("SheetDoctorModel", "sort", "[I", true)
  | 5 => ("SheetDoctorModel", "place", "[I", true)
  | 6 => ("SheetDoctorModel", "value", "[J", true)
  | 7 => ("SheetDoctorModel", "at", "I", false)
  | 8 => ("SheetDoctorModel", "fault", "I", false)
  | 9 => ("SheetDoctorModel", "item", "[I", true)
  | 10 => ("SheetDoctorModel", "itemA", "[I", true)
  | 11 => ("SheetDoctorModel", "itemB", "[I", true)
  | 12 => ("SheetDoctorModel", "itemFixed", "[I", true)
  | 13 => ("SheetDoctorModel", "items", "[I", true)
  | 14 => ("SheetDoctorModel", "deep", "I", false)
  | 15 => ("SheetDoctorModel", "kind", "[I", true)
  | 16 => ("SheetDoctorModel", "number", "[I", true)
  | 17 => ("SheetDoctorModel", "units", "[I", true)
  | 18 => ("SheetDoctorModel", "isKept", "[Z", true)
  | 19 => ("SheetDoctorModel", "undos", "I", false)
  | 20 => ("SheetDoctorModel", "undoPlace", "[I", true)
  | 21 => ("SheetDoctorModel", "reads", "[J", true)
  | 22 => ("SheetDoctorModel", "reaches", "[J", true)
  | 23 => ("SheetDoctorModel", "worth", "[I", true)
  | 24 => ("SheetDoctorModel", "error", "[I", true)
  | 25 => ("SheetDoctorModel", "unitOf", "[I", true)
  | 26 => ("SheetDoctorModel", "clashes", "[Z", true)
  | 27 => ("SheetDoctorModel", "isTotal", "[Z", true)
  | 28 => ("SheetDoctorModel", "family", "[I", true)
  | 29 => ("SheetDoctorModel", "ways", "[I", true)
  | 30 => ("SheetDoctorModel", "isDone", "[Z", true)
  | 31 => ("SheetDoctorModel", "go", "I", false)
  | 32 => ("SheetDoctorModel", "end", "I", false)
  | 33 => ("SheetDoctorModel", "met", "I", false)
  | 34 => ("SheetDoctorModel", "clash", "Z", false)
  | 35 => ("SheetDoctorModel", "top", "I", false)
  | 36 => ("SheetDoctorModel", "pile", "[I", true)
  | 37 => ("SheetDoctorModel", "found", "I", false)
  | 38 => ("SheetDoctorModel", "finding", "[I", true)
  | 39 => ("SheetDoctorModel", "oldWorth", "[I", true)
  | 40 => ("SheetDoctorModel", "oldError", "[I", true)
  | 41 => ("SheetDoctorModel", "changes", "I", false)
  | _ => ("SheetDoctorModel", "change", "[I", true)
def tyX12 : Nat → FieldType := fun k => match k with
  | 0 => .int
  | 1 => .array .int
  | 2 => .int
  | 3 => .int
  | 4 => .array .int
  | 5 => .array .int
  | 6 => .array .long
  | 7 => .int
  | 8 => .int
  | 9 => .array .int
  | 10 => .array .int
  | 11 => .array .int
  | 12 => .array .int
  | 13 => .array .int
  | 14 => .int
  | 15 => .array .int
  | 16 => .array .int
  | 17 => .array .int
  | 18 => .array .boolean
  | 19 => .int
  | 20 => .array .int
  | 21 => .array .long
  | 22 => .array .long
  | 23 => .array .int
  | 24 => .array .int
  | 25 => .array .int
  | 26 => .array .boolean
  | 27 => .array .boolean
  | 28 => .array .int
  | 29 => .array .int
  | 30 => .array .boolean
  | 31 => .int
  | 32 => .int
  | 33 => .int
  | 34 => .boolean
  | 35 => .int
  | 36 => .array .int
  | 37 => .int
  | 38 => .array .int
  | 39 => .array .int
  | 40 => .array .int
  | 41 => .int
  | _ => .array .int
theorem nmX12 : ∀ a, a < 43 → ∀ b, b < 43 → a ≠ b → (TX12 a).2.1 ≠ (TX12 b).2.1 := by decide +kernel
theorem tyX12_ok : ∀ k, k < 43 → parseFieldDescriptor (TX12 k).2.2.1 = some (tyX12 k) := by decide +kernel
def RL : String := "SheetDoctorLaw"
def RJ13 : String := "java/lang/Long"
def RJ9 : String := "java/lang/Math"
abbrev cX0_init : ByteArray := prog_2_method_1_code
def yX0_init : MethodName := ⟨RX0, "<init>", "(IILSheetDoctor$Formula;)V"⟩
abbrev cX0_init_ : ByteArray := prog_2_method_2_code
def yX0_init_ : MethodName := ⟨RX0, "<init>", "(IIII)V"⟩
abbrev cX0_fits : ByteArray := prog_2_method_3_code
def yX0_fits : MethodName := ⟨RX0, "fits", "(I)Z"⟩
abbrev cX0_withoutUnit : ByteArray := prog_2_method_4_code
def yX0_withoutUnit : MethodName := ⟨RX0, "withoutUnit", "()LSheetDoctor$Cell;"⟩
abbrev cX1_init : ByteArray := prog_3_method_1_code
def yX1_init : MethodName := ⟨RX1, "<init>", "(LSheetDoctor$Values;)V"⟩
abbrev cX1_forget : ByteArray := prog_3_method_2_code
def yX1_forget : MethodName := ⟨RX1, "forget", "()V"⟩
abbrev cX1_remember : ByteArray := prog_3_method_3_code
def yX1_remember : MethodName := ⟨RX1, "remember", "()V"⟩
abbrev cX1_compare : ByteArray := prog_3_method_4_code
def yX1_compare : MethodName := ⟨RX1, "compare", "()I"⟩
abbrev cX1_tell : ByteArray := prog_3_method_5_code
def yX1_tell : MethodName := ⟨RX1, "tell", "(II)I"⟩
abbrev cX2_init : ByteArray := prog_4_method_1_code
def yX2_init : MethodName := ⟨RX2, "<init>", "(LSheetDoctor$Sheet;)V"⟩
abbrev cX2_settle : ByteArray := prog_4_method_2_code
def yX2_settle : MethodName := ⟨RX2, "settle", "()V"⟩
abbrev cX2_familyOf : ByteArray := prog_4_method_3_code
def yX2_familyOf : MethodName := ⟨RX2, "familyOf", "(ILSheetDoctor$Formula;)I"⟩
abbrev cX2_familyAt : ByteArray := prog_4_method_4_code
def yX2_familyAt : MethodName := ⟨RX2, "familyAt", "(I)I"⟩
abbrev cX2_areKin : ByteArray := prog_4_method_5_code
def yX2_areKin : MethodName := ⟨RX2, "areKin", "(II)Z"⟩
abbrev cX2_neighbourToCopy : ByteArray := prog_4_method_6_code
def yX2_neighbourToCopy : MethodName := ⟨RX2, "neighbourToCopy", "(I)I"⟩
abbrev cX2_isStranger : ByteArray := prog_4_method_7_code
def yX2_isStranger : MethodName := ⟨RX2, "isStranger", "(III)Z"⟩
abbrev cX3_init : ByteArray := prog_5_method_1_code
def yX3_init : MethodName := ⟨RX3, "<init>", "(LSheetDoctor$Sheet;LSheetDoctor$Links;LSheetDoctor$Families;LSheetDoctor$Units;LSheetDoctor$Totals;)V"⟩
abbrev cX3_gather : ByteArray := prog_5_method_2_code
def yX3_gather : MethodName := ⟨RX3, "gather", "()I"⟩
abbrev cX3_tell : ByteArray := prog_5_method_3_code
def yX3_tell : MethodName := ⟨RX3, "tell", "(II)I"⟩
abbrev cX3_gatherOf : ByteArray := prog_5_method_4_code
def yX3_gatherOf : MethodName := ⟨RX3, "gatherOf", "(I)V"⟩
abbrev cX3_gatherShort : ByteArray := prog_5_method_5_code
def yX3_gatherShort : MethodName := ⟨RX3, "gatherShort", "(ILSheetDoctor$Formula;)V"⟩
abbrev cX3_add : ByteArray := prog_5_method_6_code
def yX3_add : MethodName := ⟨RX3, "add", "(III)V"⟩
abbrev cX3_shortBelow : ByteArray := prog_5_method_7_code
def yX3_shortBelow : MethodName := ⟨RX3, "shortBelow", "(ILSheetDoctor$Formula;I)I"⟩
abbrev cX3_shortRight : ByteArray := prog_5_method_8_code
def yX3_shortRight : MethodName := ⟨RX3, "shortRight", "(ILSheetDoctor$Formula;I)I"⟩
abbrev cX3_goesOn : ByteArray := prog_5_method_9_code
def yX3_goesOn : MethodName := ⟨RX3, "goesOn", "(III)Z"⟩
abbrev cX4_init : ByteArray := prog_6_method_1_code
def yX4_init : MethodName := ⟨RX4, "<init>", "([I[I[II)V"⟩
abbrev cX4_reference : ByteArray := prog_6_method_2_code
def yX4_reference : MethodName := ⟨RX4, "reference", "(IZZI)I"⟩
abbrev cX4_columnOf : ByteArray := prog_6_method_3_code
def yX4_columnOf : MethodName := ⟨RX4, "columnOf", "(II)I"⟩
abbrev cX4_rowOf : ByteArray := prog_6_method_4_code
def yX4_rowOf : MethodName := ⟨RX4, "rowOf", "(II)I"⟩
abbrev cX4_size : ByteArray := prog_6_method_5_code
def yX4_size : MethodName := ⟨RX4, "size", "()I"⟩
abbrev cX4_stepAt : ByteArray := prog_6_method_6_code
def yX4_stepAt : MethodName := ⟨RX4, "stepAt", "(I)I"⟩
abbrev cX4_constantAt : ByteArray := prog_6_method_7_code
def yX4_constantAt : MethodName := ⟨RX4, "constantAt", "(I)I"⟩
abbrev cX4_readsAt : ByteArray := prog_6_method_8_code
def yX4_readsAt : MethodName := ⟨RX4, "readsAt", "(I)Z"⟩
abbrev cX4_left : ByteArray := prog_6_method_9_code
def yX4_left : MethodName := ⟨RX4, "left", "(II)I"⟩
abbrev cX4_top : ByteArray := prog_6_method_10_code
def yX4_top : MethodName := ⟨RX4, "top", "(II)I"⟩
abbrev cX4_right : ByteArray := prog_6_method_11_code
def yX4_right : MethodName := ⟨RX4, "right", "(II)I"⟩
abbrev cX4_bottom : ByteArray := prog_6_method_12_code
def yX4_bottom : MethodName := ⟨RX4, "bottom", "(II)I"⟩
abbrev cX4_listPlaces : ByteArray := prog_6_method_13_code
def yX4_listPlaces : MethodName := ⟨RX4, "listPlaces", "(II[I)I"⟩
abbrev cX4_stepOfSum : ByteArray := prog_6_method_14_code
def yX4_stepOfSum : MethodName := ⟨RX4, "stepOfSum", "(I)I"⟩
abbrev cX4_isOfReadsAndPlus : ByteArray := prog_6_method_15_code
def yX4_isOfReadsAndPlus : MethodName := ⟨RX4, "isOfReadsAndPlus", "()Z"⟩
abbrev cX4_isKinOf : ByteArray := prog_6_method_16_code
def yX4_isKinOf : MethodName := ⟨RX4, "isKinOf", "(LSheetDoctor$Formula;)Z"⟩
abbrev cX4_fits : ByteArray := prog_6_method_17_code
def yX4_fits : MethodName := ⟨RX4, "fits", "(I)Z"⟩
abbrev cX4_spanFits : ByteArray := prog_6_method_18_code
def yX4_spanFits : MethodName := ⟨RX4, "spanFits", "(II)Z"⟩
abbrev cX4_stretched : ByteArray := prog_6_method_19_code
def yX4_stretched : MethodName := ⟨RX4, "stretched", "(III)LSheetDoctor$Formula;"⟩
abbrev cX5_init : ByteArray := prog_7_method_1_code
def yX5_init : MethodName := ⟨RX5, "<init>", "(LSheetDoctor$Sheet;)V"⟩
abbrev cX5_settle : ByteArray := prog_7_method_2_code
def yX5_settle : MethodName := ⟨RX5, "settle", "()V"⟩
abbrev cX5_inRing : ByteArray := prog_7_method_3_code
def yX5_inRing : MethodName := ⟨RX5, "inRing", "(I)Z"⟩
abbrev cX5_orderSize : ByteArray := prog_7_method_4_code
def yX5_orderSize : MethodName := ⟨RX5, "orderSize", "()I"⟩
abbrev cX5_inOrder : ByteArray := prog_7_method_5_code
def yX5_inOrder : MethodName := ⟨RX5, "inOrder", "(I)I"⟩
abbrev cX5_cellsReadBy : ByteArray := prog_7_method_6_code
def yX5_cellsReadBy : MethodName := ⟨RX5, "cellsReadBy", "(I)I"⟩
abbrev cX5_readersOf : ByteArray := prog_7_method_7_code
def yX5_readersOf : MethodName := ⟨RX5, "readersOf", "(I)I"⟩
abbrev cX5_forgetReads : ByteArray := prog_7_method_8_code
def yX5_forgetReads : MethodName := ⟨RX5, "forgetReads", "()V"⟩
abbrev cX5_gatherReads : ByteArray := prog_7_method_9_code
def yX5_gatherReads : MethodName := ⟨RX5, "gatherReads", "()V"⟩
abbrev cX5_gatherReadsOf : ByteArray := prog_7_method_10_code
def yX5_gatherReadsOf : MethodName := ⟨RX5, "gatherReadsOf", "(ILSheetDoctor$Formula;)V"⟩
abbrev cX5_formulasReadBy : ByteArray := prog_7_method_11_code
def yX5_formulasReadBy : MethodName := ⟨RX5, "formulasReadBy", "(I)I"⟩
abbrev cX5_appendToOrder : ByteArray := prog_7_method_12_code
def yX5_appendToOrder : MethodName := ⟨RX5, "appendToOrder", "(I)V"⟩
abbrev cX5_release : ByteArray := prog_7_method_13_code
def yX5_release : MethodName := ⟨RX5, "release", "(I)V"⟩
abbrev cX5_findRings : ByteArray := prog_7_method_14_code
def yX5_findRings : MethodName := ⟨RX5, "findRings", "()V"⟩
abbrev cX5_reachThrough : ByteArray := prog_7_method_15_code
def yX5_reachThrough : MethodName := ⟨RX5, "reachThrough", "(I)V"⟩
abbrev cX6_init : ByteArray := prog_8_method_1_code
def yX6_init : MethodName := ⟨RX6, "<init>", "()V"⟩
abbrev cX6_at : ByteArray := prog_8_method_2_code
def yX6_at : MethodName := ⟨RX6, "at", "(I)LSheetDoctor$Cell;"⟩
abbrev cX6_kindAt : ByteArray := prog_8_method_3_code
def yX6_kindAt : MethodName := ⟨RX6, "kindAt", "(I)I"⟩
abbrev cX6_formulaAt : ByteArray := prog_8_method_4_code
def yX6_formulaAt : MethodName := ⟨RX6, "formulaAt", "(I)LSheetDoctor$Formula;"⟩
abbrev cX6_copyFor : ByteArray := prog_8_method_5_code
def yX6_copyFor : MethodName := ⟨RX6, "copyFor", "(II)LSheetDoctor$Cell;"⟩
abbrev cX6_isKept : ByteArray := prog_8_method_6_code
def yX6_isKept : MethodName := ⟨RX6, "isKept", "(I)Z"⟩
abbrev cX6_setKept : ByteArray := prog_8_method_7_code
def yX6_setKept : MethodName := ⟨RX6, "setKept", "(IZ)Z"⟩
abbrev cX6_cellsOfKind : ByteArray := prog_8_method_8_code
def yX6_cellsOfKind : MethodName := ⟨RX6, "cellsOfKind", "(I)I"⟩
abbrev cX6_replace : ByteArray := prog_8_method_9_code
def yX6_replace : MethodName := ⟨RX6, "replace", "(ILSheetDoctor$Cell;)V"⟩
abbrev cX6_put : ByteArray := prog_8_method_10_code
def yX6_put : MethodName := ⟨RX6, "put", "(ILSheetDoctor$Cell;)V"⟩
abbrev cX6_forgetOldest : ByteArray := prog_8_method_11_code
def yX6_forgetOldest : MethodName := ⟨RX6, "forgetOldest", "()V"⟩
abbrev cX6_takeBack : ByteArray := prog_8_method_12_code
def yX6_takeBack : MethodName := ⟨RX6, "takeBack", "()V"⟩
abbrev cX7_init : ByteArray := prog_9_method_1_code
def yX7_init : MethodName := ⟨RX7, "<init>", "()V"⟩
abbrev cX7_append : ByteArray := prog_9_method_2_code
def yX7_append : MethodName := ⟨RX7, "append", "(J)V"⟩
abbrev cX7_read : ByteArray := prog_9_method_3_code
def yX7_read : MethodName := ⟨RX7, "read", "(I)LSheetDoctor$Formula;"⟩
abbrev cX7_findTokens : ByteArray := prog_9_method_4_code
def yX7_findTokens : MethodName := ⟨RX7, "findTokens", "()V"⟩
abbrev cX7_endOfToken : ByteArray := prog_9_method_5_code
def yX7_endOfToken : MethodName := ⟨RX7, "endOfToken", "(I)I"⟩
abbrev cX7_kindOf : ByteArray := prog_9_method_6_code
def yX7_kindOf : MethodName := ⟨RX7, "kindOf", "(II)I"⟩
abbrev cX7_addToken : ByteArray := prog_9_method_7_code
def yX7_addToken : MethodName := ⟨RX7, "addToken", "(III)V"⟩
abbrev cX7_wordAmount : ByteArray := prog_9_method_8_code
def yX7_wordAmount : MethodName := ⟨RX7, "wordAmount", "(II)I"⟩
abbrev cX7_digitsAmount : ByteArray := prog_9_method_9_code
def yX7_digitsAmount : MethodName := ⟨RX7, "digitsAmount", "(II)I"⟩
abbrev cX7_isLetter : ByteArray := prog_9_method_10_code
def yX7_isLetter : MethodName := ⟨RX7, "isLetter", "(C)Z"⟩
abbrev cX7_isDigit : ByteArray := prog_9_method_11_code
def yX7_isDigit : MethodName := ⟨RX7, "isDigit", "(C)Z"⟩
abbrev cX7_kind : ByteArray := prog_9_method_12_code
def yX7_kind : MethodName := ⟨RX7, "kind", "()I"⟩
abbrev cX7_amount : ByteArray := prog_9_method_13_code
def yX7_amount : MethodName := ⟨RX7, "amount", "()I"⟩
abbrev cX7_wrong : ByteArray := prog_9_method_14_code
def yX7_wrong : MethodName := ⟨RX7, "wrong", "(I)Z"⟩
abbrev cX7_add : ByteArray := prog_9_method_15_code
def yX7_add : MethodName := ⟨RX7, "add", "(III)V"⟩
abbrev cX7_sum : ByteArray := prog_9_method_16_code
def yX7_sum : MethodName := ⟨RX7, "sum", "(I)Z"⟩
abbrev cX7_product : ByteArray := prog_9_method_17_code
def yX7_product : MethodName := ⟨RX7, "product", "(I)Z"⟩
abbrev cX7_part : ByteArray := prog_9_method_18_code
def yX7_part : MethodName := ⟨RX7, "part", "(I)Z"⟩
abbrev cX7_startsPart : ByteArray := prog_9_method_19_code
def yX7_startsPart : MethodName := ⟨RX7, "startsPart", "()Z"⟩
abbrev cX7_brackets : ByteArray := prog_9_method_20_code
def yX7_brackets : MethodName := ⟨RX7, "brackets", "(I)Z"⟩
abbrev cX7_negated : ByteArray := prog_9_method_21_code
def yX7_negated : MethodName := ⟨RX7, "negated", "(I)Z"⟩
abbrev cX7_single : ByteArray := prog_9_method_22_code
def yX7_single : MethodName := ⟨RX7, "single", "()Z"⟩
abbrev cX7_span : ByteArray := prog_9_method_23_code
def yX7_span : MethodName := ⟨RX7, "span", "()Z"⟩
abbrev cX7_take : ByteArray := prog_9_method_24_code
def yX7_take : MethodName := ⟨RX7, "take", "(I)Z"⟩
abbrev cX7_reference : ByteArray := prog_9_method_25_code
def yX7_reference : MethodName := ⟨RX7, "reference", "(II)I"⟩
abbrev cX7_columnFault : ByteArray := prog_9_method_26_code
def yX7_columnFault : MethodName := ⟨RX7, "columnFault", "(III)I"⟩
abbrev cX7_rowFault : ByteArray := prog_9_method_27_code
def yX7_rowFault : MethodName := ⟨RX7, "rowFault", "(III)I"⟩
abbrev cX8_init : ByteArray := prog_10_method_1_code
def yX8_init : MethodName := ⟨RX8, "<init>", "(LSheetDoctor$Sheet;LSheetDoctor$Links;)V"⟩
abbrev cX8_settle : ByteArray := prog_10_method_2_code
def yX8_settle : MethodName := ⟨RX8, "settle", "()V"⟩
abbrev cX8_isTotal : ByteArray := prog_10_method_3_code
def yX8_isTotal : MethodName := ⟨RX8, "isTotal", "(I)Z"⟩
abbrev cX8_waysInto : ByteArray := prog_10_method_4_code
def yX8_waysInto : MethodName := ⟨RX8, "waysInto", "(II)I"⟩
abbrev cX8_waysThrough : ByteArray := prog_10_method_5_code
def yX8_waysThrough : MethodName := ⟨RX8, "waysThrough", "(IILSheetDoctor$Formula;)I"⟩
abbrev cX8_waysBy : ByteArray := prog_10_method_6_code
def yX8_waysBy : MethodName := ⟨RX8, "waysBy", "(II)I"⟩
abbrev cX8_gatherTwice : ByteArray := prog_10_method_7_code
def yX8_gatherTwice : MethodName := ⟨RX8, "gatherTwice", "()V"⟩
abbrev cX8_forgetTwiceOf : ByteArray := prog_10_method_8_code
def yX8_forgetTwiceOf : MethodName := ⟨RX8, "forgetTwiceOf", "(I)V"⟩
abbrev cX8_gatherTwiceOf : ByteArray := prog_10_method_9_code
def yX8_gatherTwiceOf : MethodName := ⟨RX8, "gatherTwiceOf", "(ILSheetDoctor$Formula;)V"⟩
abbrev cX8_addRead : ByteArray := prog_10_method_10_code
def yX8_addRead : MethodName := ⟨RX8, "addRead", "(II)V"⟩
abbrev cX8_addWaysOf : ByteArray := prog_10_method_11_code
def yX8_addWaysOf : MethodName := ⟨RX8, "addWaysOf", "(II)V"⟩
abbrev cX8_leastTwice : ByteArray := prog_10_method_12_code
def yX8_leastTwice : MethodName := ⟨RX8, "leastTwice", "(I)I"⟩
abbrev cX9_init : ByteArray := prog_11_method_1_code
def yX9_init : MethodName := ⟨RX9, "<init>", "(LSheetDoctor$Sheet;LSheetDoctor$Links;)V"⟩
abbrev cX9_settle : ByteArray := prog_11_method_2_code
def yX9_settle : MethodName := ⟨RX9, "settle", "()V"⟩
abbrev cX9_exponentAt : ByteArray := prog_11_method_3_code
def yX9_exponentAt : MethodName := ⟨RX9, "exponentAt", "(II)I"⟩
abbrev cX9_clashesAt : ByteArray := prog_11_method_4_code
def yX9_clashesAt : MethodName := ⟨RX9, "clashesAt", "(I)Z"⟩
abbrev cX9_workOut : ByteArray := prog_11_method_5_code
def yX9_workOut : MethodName := ⟨RX9, "workOut", "(ILSheetDoctor$Formula;)V"⟩
abbrev cX9_firstFilled : ByteArray := prog_11_method_6_code
def yX9_firstFilled : MethodName := ⟨RX9, "firstFilled", "(ILSheetDoctor$Formula;I)I"⟩
abbrev cX9_areSame : ByteArray := prog_11_method_7_code
def yX9_areSame : MethodName := ⟨RX9, "areSame", "(II)Z"⟩
abbrev cX9_pushUnitOf : ByteArray := prog_11_method_8_code
def yX9_pushUnitOf : MethodName := ⟨RX9, "pushUnitOf", "(I)V"⟩
abbrev cX9_join : ByteArray := prog_11_method_9_code
def yX9_join : MethodName := ⟨RX9, "join", "(I)V"⟩
abbrev cX10_init : ByteArray := prog_12_method_1_code
def yX10_init : MethodName := ⟨RX10, "<init>", "(LSheetDoctor$Sheet;LSheetDoctor$Links;)V"⟩
abbrev cX10_settle : ByteArray := prog_12_method_2_code
def yX10_settle : MethodName := ⟨RX10, "settle", "()V"⟩
abbrev cX10_valueAt : ByteArray := prog_12_method_3_code
def yX10_valueAt : MethodName := ⟨RX10, "valueAt", "(I)I"⟩
abbrev cX10_errorAt : ByteArray := prog_12_method_4_code
def yX10_errorAt : MethodName := ⟨RX10, "errorAt", "(I)I"⟩
abbrev cX10_errors : ByteArray := prog_12_method_5_code
def yX10_errors : MethodName := ⟨RX10, "errors", "()I"⟩
abbrev cX10_workOut : ByteArray := prog_12_method_6_code
def yX10_workOut : MethodName := ⟨RX10, "workOut", "(ILSheetDoctor$Formula;)V"⟩
abbrev cX10_spanSum : ByteArray := prog_12_method_7_code
def yX10_spanSum : MethodName := ⟨RX10, "spanSum", "(ILSheetDoctor$Formula;I)I"⟩
abbrev cX10_join : ByteArray := prog_12_method_8_code
def yX10_join : MethodName := ⟨RX10, "join", "(I)V"⟩
abbrev cX10_quotient : ByteArray := prog_12_method_9_code
def yX10_quotient : MethodName := ⟨RX10, "quotient", "(II)I"⟩
abbrev cX10_push : ByteArray := prog_12_method_10_code
def yX10_push : MethodName := ⟨RX10, "push", "(I)V"⟩
abbrev cX10_pop : ByteArray := prog_12_method_11_code
def yX10_pop : MethodName := ⟨RX10, "pop", "()I"⟩
abbrev cX11_init : ByteArray := prog_1_method_1_code
def yX11_init : MethodName := ⟨RX11, "<init>", "()V"⟩
abbrev cX11_feed : ByteArray := prog_1_method_2_code
def yX11_feed : MethodName := ⟨RX11, "feed", "(JJJ)I"⟩
abbrev cX11_formula : ByteArray := prog_1_method_3_code
def yX11_formula : MethodName := ⟨RX11, "formula", "(I)I"⟩
abbrev cX11_number : ByteArray := prog_1_method_4_code
def yX11_number : MethodName := ⟨RX11, "number", "(II)Z"⟩
abbrev cX11_empty : ByteArray := prog_1_method_5_code
def yX11_empty : MethodName := ⟨RX11, "empty", "(I)Z"⟩
abbrev cX11_copy : ByteArray := prog_1_method_6_code
def yX11_copy : MethodName := ⟨RX11, "copy", "(II)Z"⟩
abbrev cX11_unit : ByteArray := prog_1_method_7_code
def yX11_unit : MethodName := ⟨RX11, "unit", "(IIII)Z"⟩
abbrev cX11_keep : ByteArray := prog_1_method_8_code
def yX11_keep : MethodName := ⟨RX11, "keep", "(IZ)Z"⟩
abbrev cX11_check : ByteArray := prog_1_method_9_code
def yX11_check : MethodName := ⟨RX11, "check", "()I"⟩
abbrev cX11_finding : ByteArray := prog_1_method_10_code
def yX11_finding : MethodName := ⟨RX11, "finding", "(II)I"⟩
abbrev cX11_mend : ByteArray := prog_1_method_11_code
def yX11_mend : MethodName := ⟨RX11, "mend", "(I)I"⟩
abbrev cX11_stretch : ByteArray := prog_1_method_12_code
def yX11_stretch : MethodName := ⟨RX11, "stretch", "(II)I"⟩
abbrev cX11_changed : ByteArray := prog_1_method_13_code
def yX11_changed : MethodName := ⟨RX11, "changed", "(II)I"⟩
abbrev cX11_undo : ByteArray := prog_1_method_14_code
def yX11_undo : MethodName := ⟨RX11, "undo", "()I"⟩
abbrev cX11_cell : ByteArray := prog_1_method_15_code
def yX11_cell : MethodName := ⟨RX11, "cell", "(II)I"⟩
abbrev cX11_ways : ByteArray := prog_1_method_16_code
def yX11_ways : MethodName := ⟨RX11, "ways", "(II)I"⟩
abbrev cX11_count : ByteArray := prog_1_method_17_code
def yX11_count : MethodName := ⟨RX11, "count", "(I)I"⟩
abbrev cX11_stretchedFormula : ByteArray := prog_1_method_18_code
def yX11_stretchedFormula : MethodName := ⟨RX11, "stretchedFormula", "(II)LSheetDoctor$Formula;"⟩
abbrev cX11_onSheet : ByteArray := prog_1_method_19_code
def yX11_onSheet : MethodName := ⟨RX11, "onSheet", "(I)Z"⟩
abbrev cX11_isExponent : ByteArray := prog_1_method_20_code
def yX11_isExponent : MethodName := ⟨RX11, "isExponent", "(I)Z"⟩
abbrev cX11_hasBit : ByteArray := prog_1_method_21_code
def yX11_hasBit : MethodName := ⟨RX11, "hasBit", "([JII)Z"⟩
abbrev cX11_setBit : ByteArray := prog_1_method_22_code
def yX11_setBit : MethodName := ⟨RX11, "setBit", "([JII)V"⟩
abbrev cX12_thrown : ByteArray := prog_14_method_1_code
def yX12_thrown : MethodName := ⟨RX12, "thrown", "()I"⟩
abbrev cX12_feed : ByteArray := prog_14_method_2_code
def yX12_feed : MethodName := ⟨RX12, "feed", "(JJJ)I"⟩
abbrev cX12_lay : ByteArray := prog_14_method_3_code
def yX12_lay : MethodName := ⟨RX12, "lay", "(J)V"⟩
abbrev cX12_isLetter : ByteArray := prog_14_method_4_code
def yX12_isLetter : MethodName := ⟨RX12, "isLetter", "(I)Z"⟩
abbrev cX12_isDigit : ByteArray := prog_14_method_5_code
def yX12_isDigit : MethodName := ⟨RX12, "isDigit", "(I)Z"⟩
abbrev cX12_isSignOf : ByteArray := prog_14_method_6_code
def yX12_isSignOf : MethodName := ⟨RX12, "isSignOf", "(I)Z"⟩
abbrev cX12_cutAll : ByteArray := prog_14_method_7_code
def yX12_cutAll : MethodName := ⟨RX12, "cutAll", "()V"⟩
abbrev cX12_wrong : ByteArray := prog_14_method_8_code
def yX12_wrong : MethodName := ⟨RX12, "wrong", "(I)V"⟩
abbrev cX12_isSign : ByteArray := prog_14_method_9_code
def yX12_isSign : MethodName := ⟨RX12, "isSign", "(I)Z"⟩
abbrev cX12_hasSign : ByteArray := prog_14_method_10_code
def yX12_hasSign : MethodName := ⟨RX12, "hasSign", "(I)Z"⟩
abbrev cX12_init : ByteArray := prog_14_method_11_code
def yX12_init : MethodName := ⟨RX12, "<init>", "()V"⟩
abbrev cX12_add : ByteArray := prog_14_method_12_code
def yX12_add : MethodName := ⟨RX12, "add", "(IIII)V"⟩
abbrev cX12_takeSign : ByteArray := prog_14_method_13_code
def yX12_takeSign : MethodName := ⟨RX12, "takeSign", "(I)V"⟩
abbrev cX12_isSum : ByteArray := prog_14_method_14_code
def yX12_isSum : MethodName := ⟨RX12, "isSum", "()Z"⟩
abbrev cX12_isColumn : ByteArray := prog_14_method_15_code
def yX12_isColumn : MethodName := ⟨RX12, "isColumn", "()Z"⟩
abbrev cX12_readE : ByteArray := prog_14_method_16_code
def yX12_readE : MethodName := ⟨RX12, "readE", "()V"⟩
abbrev cX12_readProduct : ByteArray := prog_14_method_17_code
def yX12_readProduct : MethodName := ⟨RX12, "readProduct", "()V"⟩
abbrev cX12_isPart : ByteArray := prog_14_method_18_code
def yX12_isPart : MethodName := ⟨RX12, "isPart", "()Z"⟩
abbrev cX12_readPart : ByteArray := prog_14_method_19_code
def yX12_readPart : MethodName := ⟨RX12, "readPart", "()V"⟩
abbrev cX12_readRef : ByteArray := prog_14_method_20_code
def yX12_readRef : MethodName := ⟨RX12, "readRef", "(I)V"⟩
abbrev cX12_copyRow : ByteArray := prog_14_method_21_code
def yX12_copyRow : MethodName := ⟨RX12, "copyRow", "(II)V"⟩
abbrev cX12_clearDraft : ByteArray := prog_14_method_22_code
def yX12_clearDraft : MethodName := ⟨RX12, "clearDraft", "(II)V"⟩
abbrev cX12_puts : ByteArray := prog_14_method_23_code
def yX12_puts : MethodName := ⟨RX12, "puts", "(I)V"⟩
abbrev cX12_isPlace : ByteArray := prog_14_method_24_code
def yX12_isPlace : MethodName := ⟨RX12, "isPlace", "(I)Z"⟩
abbrev cX12_formula : ByteArray := prog_14_method_25_code
def yX12_formula : MethodName := ⟨RX12, "formula", "(I)I"⟩
abbrev cX12_number : ByteArray := prog_14_method_26_code
def yX12_number : MethodName := ⟨RX12, "number", "(II)Z"⟩
abbrev cX12_empty : ByteArray := prog_14_method_27_code
def yX12_empty : MethodName := ⟨RX12, "empty", "(I)Z"⟩
abbrev cX12_makesCopy : ByteArray := prog_14_method_28_code
def yX12_makesCopy : MethodName := ⟨RX12, "makesCopy", "(II)Z"⟩
abbrev cX12_copy : ByteArray := prog_14_method_29_code
def yX12_copy : MethodName := ⟨RX12, "copy", "(II)Z"⟩
abbrev cX12_unit : ByteArray := prog_14_method_30_code
def yX12_unit : MethodName := ⟨RX12, "unit", "(IIII)Z"⟩
abbrev cX12_keep : ByteArray := prog_14_method_31_code
def yX12_keep : MethodName := ⟨RX12, "keep", "(IZ)Z"⟩
abbrev cX12_has : ByteArray := prog_14_method_32_code
def yX12_has : MethodName := ⟨RX12, "has", "([JII)Z"⟩
abbrev cX12_sets : ByteArray := prog_14_method_33_code
def yX12_sets : MethodName := ⟨RX12, "sets", "([JII)V"⟩
abbrev cX12_spanLast : ByteArray := prog_14_method_34_code
def yX12_spanLast : MethodName := ⟨RX12, "spanLast", "(II)I"⟩
abbrev cX12_findReads : ByteArray := prog_14_method_35_code
def yX12_findReads : MethodName := ⟨RX12, "findReads", "()V"⟩
abbrev cX12_isRing : ByteArray := prog_14_method_36_code
def yX12_isRing : MethodName := ⟨RX12, "isRing", "(I)Z"⟩
abbrev cX12_works : ByteArray := prog_14_method_37_code
def yX12_works : MethodName := ⟨RX12, "works", "()V"⟩
abbrev cX12_isReady : ByteArray := prog_14_method_38_code
def yX12_isReady : MethodName := ⟨RX12, "isReady", "(I)Z"⟩
abbrev cX12_work : ByteArray := prog_14_method_39_code
def yX12_work : MethodName := ⟨RX12, "work", "(I)V"⟩
abbrev cX12_isNext : ByteArray := prog_14_method_40_code
def yX12_isNext : MethodName := ⟨RX12, "isNext", "(I)Z"⟩
abbrev cX12_goE : ByteArray := prog_14_method_41_code
def yX12_goE : MethodName := ⟨RX12, "goE", "()I"⟩
abbrev cX12_goProduct : ByteArray := prog_14_method_42_code
def yX12_goProduct : MethodName := ⟨RX12, "goProduct", "()I"⟩
abbrev cX12_goPart : ByteArray := prog_14_method_43_code
def yX12_goPart : MethodName := ⟨RX12, "goPart", "()I"⟩
abbrev cX12_meets : ByteArray := prog_14_method_44_code
def yX12_meets : MethodName := ⟨RX12, "meets", "(I)I"⟩
abbrev cX12_sumOf : ByteArray := prog_14_method_45_code
def yX12_sumOf : MethodName := ⟨RX12, "sumOf", "(II)I"⟩
abbrev cX12_pushUnit : ByteArray := prog_14_method_46_code
def yX12_pushUnit : MethodName := ⟨RX12, "pushUnit", "(III)V"⟩
abbrev cX12_pushUnitOf : ByteArray := prog_14_method_47_code
def yX12_pushUnitOf : MethodName := ⟨RX12, "pushUnitOf", "(I)V"⟩
abbrev cX12_unitE : ByteArray := prog_14_method_48_code
def yX12_unitE : MethodName := ⟨RX12, "unitE", "()V"⟩
abbrev cX12_unitProduct : ByteArray := prog_14_method_49_code
def yX12_unitProduct : MethodName := ⟨RX12, "unitProduct", "()V"⟩
abbrev cX12_unitPart : ByteArray := prog_14_method_50_code
def yX12_unitPart : MethodName := ⟨RX12, "unitPart", "()V"⟩
abbrev cX12_unitSum : ByteArray := prog_14_method_51_code
def yX12_unitSum : MethodName := ⟨RX12, "unitSum", "(II)V"⟩
abbrev cX12_isUnitSame : ByteArray := prog_14_method_52_code
def yX12_isUnitSame : MethodName := ⟨RX12, "isUnitSame", "(II)Z"⟩
abbrev cX12_looksTotal : ByteArray := prog_14_method_53_code
def yX12_looksTotal : MethodName := ⟨RX12, "looksTotal", "(I)Z"⟩
abbrev cX12_countWays : ByteArray := prog_14_method_54_code
def yX12_countWays : MethodName := ⟨RX12, "countWays", "(I)V"⟩
abbrev cX12_addWays : ByteArray := prog_14_method_55_code
def yX12_addWays : MethodName := ⟨RX12, "addWays", "(II)V"⟩
abbrev cX12_addWay : ByteArray := prog_14_method_56_code
def yX12_addWay : MethodName := ⟨RX12, "addWay", "(III)V"⟩
abbrev cX12_isAlike : ByteArray := prog_14_method_57_code
def yX12_isAlike : MethodName := ⟨RX12, "isAlike", "(II)Z"⟩
abbrev cX12_findFamilies : ByteArray := prog_14_method_58_code
def yX12_findFamilies : MethodName := ⟨RX12, "findFamilies", "()V"⟩
abbrev cX12_finds : ByteArray := prog_14_method_59_code
def yX12_finds : MethodName := ⟨RX12, "finds", "(III)V"⟩
abbrev cX12_familyAt : ByteArray := prog_14_method_60_code
def yX12_familyAt : MethodName := ⟨RX12, "familyAt", "(II)I"⟩
abbrev cX12_oddBy : ByteArray := prog_14_method_61_code
def yX12_oddBy : MethodName := ⟨RX12, "oddBy", "(I)I"⟩
abbrev cX12_shortBy : ByteArray := prog_14_method_62_code
def yX12_shortBy : MethodName := ⟨RX12, "shortBy", "(IIZ)I"⟩
abbrev cX12_findShort : ByteArray := prog_14_method_63_code
def yX12_findShort : MethodName := ⟨RX12, "findShort", "(I)V"⟩
abbrev cX12_leastTwice : ByteArray := prog_14_method_64_code
def yX12_leastTwice : MethodName := ⟨RX12, "leastTwice", "(I)I"⟩
abbrev cX12_readers : ByteArray := prog_14_method_65_code
def yX12_readers : MethodName := ⟨RX12, "readers", "(I)I"⟩
abbrev cX12_check : ByteArray := prog_14_method_66_code
def yX12_check : MethodName := ⟨RX12, "check", "()I"⟩
abbrev cX12_finding : ByteArray := prog_14_method_67_code
def yX12_finding : MethodName := ⟨RX12, "finding", "(II)I"⟩
abbrev cX12_remembers : ByteArray := prog_14_method_68_code
def yX12_remembers : MethodName := ⟨RX12, "remembers", "()V"⟩
abbrev cX12_tells : ByteArray := prog_14_method_69_code
def yX12_tells : MethodName := ⟨RX12, "tells", "()I"⟩
abbrev cX12_mend : ByteArray := prog_14_method_70_code
def yX12_mend : MethodName := ⟨RX12, "mend", "(I)I"⟩
abbrev cX12_sumAt : ByteArray := prog_14_method_71_code
def yX12_sumAt : MethodName := ⟨RX12, "sumAt", "(II)I"⟩
abbrev cX12_stretch : ByteArray := prog_14_method_72_code
def yX12_stretch : MethodName := ⟨RX12, "stretch", "(II)I"⟩
abbrev cX12_changed : ByteArray := prog_14_method_73_code
def yX12_changed : MethodName := ⟨RX12, "changed", "(II)I"⟩
abbrev cX12_undo : ByteArray := prog_14_method_74_code
def yX12_undo : MethodName := ⟨RX12, "undo", "()I"⟩
abbrev cX12_readMany : ByteArray := prog_14_method_75_code
def yX12_readMany : MethodName := ⟨RX12, "readMany", "(I)I"⟩
abbrev cX12_cell : ByteArray := prog_14_method_76_code
def yX12_cell : MethodName := ⟨RX12, "cell", "(II)I"⟩
abbrev cX12_ways : ByteArray := prog_14_method_77_code
def yX12_ways : MethodName := ⟨RX12, "ways", "(II)I"⟩
abbrev cX12_count : ByteArray := prog_14_method_78_code
def yX12_count : MethodName := ⟨RX12, "count", "(I)I"⟩
abbrev cJ13_bitCount_95d88 : ByteArray := prog_18_method_50_code
def yJ13_bitCount_95d88 : MethodName := ⟨RJ13, "bitCount", "(J)I"⟩
abbrev cJ9_max_7cf53 : ByteArray := prog_19_method_65_code
def yJ9_max_7cf53 : MethodName := ⟨RJ9, "max", "(II)I"⟩
abbrev cJ9_min_7cf53 : ByteArray := prog_19_method_69_code
def yJ9_min_7cf53 : MethodName := ⟨RJ9, "min", "(II)I"⟩
abbrev cL_cell : ByteArray := method_3_code
def yL_cell : MethodName := ⟨RL, "cell", "(LSheetDoctor;II[J)I"⟩
abbrev cL_law : ByteArray := code
def yL_law : MethodName := ⟨RL, "law", "([I)Z"⟩
abbrev vwCl : List vw_C := [(RX0, TX0, 6), (RX1, TX1, 5), (RX2, TX2, 5), (RX3, TX3, 7), (RX4, TX4, 3), (RX5, TX5, 12), (RX6, TX6, 7), (RX7, TX7, 13), (RX8, TX8, 8), (RX9, TX9, 9), (RX10, TX10, 9), (RX11, TX11, 9), (RX12, TX12, 43)]
end
section
/-! THE WORLD: what a cell is by its address (kinds 0 .. 12: the objects of vwCl; 20 int[], 21 char[], 22 boolean[], 23 long[], 24 Cell[]), and what its slots hold -/
def TBg : List Cond := lw_tbl.filter goodWord
theorem TBg_in {w : Cond} (h : w ∈ lw_tbl) (g : goodWord w = true) : w ∈ TBg := List.mem_filter.mpr ⟨h, g⟩
theorem TBg_tbl {w : Cond} (h : w ∈ TBg) : w ∈ lw_tbl := (List.mem_filter.mp h).1
theorem TBg_good {w : Cond} (h : w ∈ TBg) : (w.onTables && w.keeps) = true ∨ ∃ ty, w = .arrayClass ty := good_of_word (List.mem_filter.mp h).2
theorem TBg_all {ws : List Cond} (h : ∀ w ∈ ws, w ∈ TBg) : GoodIn TBg ws := fun w hw => ⟨h w hw, TBg_good (h w hw)⟩
theorem TB1 {w : Cond} (i : Nat) (h : tables_1_1[i]? = some w) (g : goodWord w = true) : w ∈ TBg := TBg_in (List.mem_append_right _ (List.mem_append_left _ (List.mem_of_getElem? h))) g
theorem TB2 {w : Cond} (i : Nat) (h : tables_1_2[i]? = some w) (g : goodWord w = true) : w ∈ TBg := TBg_in (List.mem_append_right _ (List.mem_append_right _ (List.mem_append_left _ (List.mem_of_getElem? h)))) g
theorem TB3 {w : Cond} (i : Nat) (h : tables_1_3[i]? = some w) (g : goodWord w = true) : w ∈ TBg := TBg_in (List.mem_append_right _ (List.mem_append_right _ (List.mem_append_right _ (List.mem_append_left _ (List.mem_of_getElem? h))))) g
theorem TB4 {w : Cond} (i : Nat) (h : tables_1_4[i]? = some w) (g : goodWord w = true) : w ∈ TBg := TBg_in (List.mem_append_right _ (List.mem_append_right _ (List.mem_append_right _ (List.mem_append_right _ (List.mem_append_left _ (List.mem_of_getElem? h)))))) g
theorem TB5 {w : Cond} (i : Nat) (h : tables_1_5[i]? = some w) (g : goodWord w = true) : w ∈ TBg := TBg_in (List.mem_append_right _ (List.mem_append_right _ (List.mem_append_right _ (List.mem_append_right _ (List.mem_append_right _ (List.mem_append_left _ (List.mem_of_getElem? h))))))) g
theorem TB6 {w : Cond} (i : Nat) (h : tables_1_6[i]? = some w) (g : goodWord w = true) : w ∈ TBg := TBg_in (List.mem_append_right _ (List.mem_append_right _ (List.mem_append_right _ (List.mem_append_right _ (List.mem_append_right _ (List.mem_append_right _ (List.mem_append_left _ (List.mem_of_getElem? h)))))))) g
theorem TB7 {w : Cond} (i : Nat) (h : tables_1_7[i]? = some w) (g : goodWord w = true) : w ∈ TBg := TBg_in (List.mem_append_right _ (List.mem_append_right _ (List.mem_append_right _ (List.mem_append_right _ (List.mem_append_right _ (List.mem_append_right _ (List.mem_append_right _ (List.mem_of_getElem? h)))))))) g
theorem TBp {q : MethodName × Nat} (h : q ∈ lw_privs) : Cond.selects q.1.cls q.1 q.1 ∈ TBg := TBg_in (List.mem_append_left _ (List.mem_map.mpr ⟨q, h, rfl⟩)) rfl
abbrev sK : Type := Nat → Option (Nat × Nat)
abbrev sI : Type := Nat → Nat → Int32
abbrev sR : Type := Nat → Nat → Option Nat
abbrev sG : Type := Nat → Nat → Int64
def rfs : List (List Nat) := [[2], [0, 1, 2, 3], [0, 1, 2], [0, 1, 2, 3, 4, 5], [0, 1, 2], [0, 1, 3, 4, 5, 6, 7, 8, 10], [0, 1, 2, 3, 4], [0, 3, 4, 5, 9, 10, 11], [0, 1, 2, 3, 4, 5, 6], [0, 1, 2, 3, 4, 5], [0, 1, 2, 3, 4, 5], [0, 1, 2, 3, 4, 5, 6, 7, 8], [1, 4, 5, 6, 9, 10, 11, 12, 13, 15, 16, 17, 18, 20, 21, 22, 23, 24, 25, 26, 27, 28, 29, 30, 36, 38, 39, 40, 42]]
def isRf (k j : Nat) : Bool := (rfs.getD k []).contains j
def nfs : List Nat := [6, 5, 5, 7, 3, 12, 7, 13, 8, 9, 9, 9, 43]
def nf (k : Nat) : Nat := nfs.getD k 0
def oV (k : Nat) (ig : sI) (rg : sR) (a : Nat) : Nat → Value := fun j => if isRf k j = true then va_rf (rg a j) else .int (ig a j)
def aV (k : Nat) (ig : sI) (rg : sR) (lg : sG) (a : Nat) : Nat → Value := fun j => if k = 23 then .long (lg a j) else if k = 24 then va_rf (rg a j) else .int (ig a j)
def PWat (D : va_G) (cA : Nat → ClassId) (ig : sI) (rg : sR) (lg : sG) (a k n : Nat) (H : Heap) : Prop :=
  if k < 13 then t_OB a (D.1 k) (nf k) (D.2 k) H (oV k ig rg a) else H[a]? = some (arrV (cA k) n (aV k ig rg lg a))
def PW (D : va_G) (cA : Nat → ClassId) (kd : sK) (ig : sI) (rg : sR) (lg : sG) (H : Heap) : Prop := ∀ a k n, kd a = some (k, n) → PWat D cA ig rg lg a k n H
def WD (B : Nat) (D : va_G) (cA : Nat → ClassId) (H0 : Heap) (kd : sK) (ig : sI) (rg : sR) (lg : sG) (H : Heap) (locs : List Loc) : Prop :=
  PW D cA kd ig rg lg H ∧ (∀ a, kd a ≠ none → B ≤ a) ∧ va_S (fun q => B ≤ q) H0 H locs ∧ B ≤ H0.size
def up2 {α : Type} (f : Nat → Nat → α) (a j : Nat) (v : α) : Nat → Nat → α := fun b i => if b = a ∧ i = j then v else f b i
theorem up2_eq {α : Type} {f : Nat → Nat → α} {a j : Nat} {v : α} : up2 f a j v a j = v := by simp [up2]
theorem up2_a {α : Type} {f : Nat → Nat → α} {a b i j : Nat} {v : α} (h : b ≠ a) : up2 f a j v b i = f b i := by simp [up2, h]
theorem up2_j {α : Type} {f : Nat → Nat → α} {a b i j : Nat} {v : α} (h : i ≠ j) : up2 f a j v b i = f b i := by simp [up2, h]
def upK (kd : sK) (a k n : Nat) : sK := fun b => if b = a then some (k, n) else kd b
theorem upK_eq {kd : sK} {a k n : Nat} : upK kd a k n a = some (k, n) := by simp [upK]
theorem upK_ne {kd : sK} {a b k n : Nat} (h : b ≠ a) : upK kd a k n b = kd b := by simp [upK, h]
def upR {α : Type} (f : Nat → Nat → α) (a : Nat) (v : α) : Nat → Nat → α := fun b i => if b = a then v else f b i
theorem upR_eq {α : Type} {f : Nat → Nat → α} {a i : Nat} {v : α} : upR f a v a i = v := by simp [upR]
theorem upR_ne {α : Type} {f : Nat → Nat → α} {a b i : Nat} {v : α} (h : b ≠ a) : upR f a v b i = f b i := by simp [upR, h]
theorem oV_i {k j a : Nat} {ig : sI} {rg : sR} (h : isRf k j = false) : oV k ig rg a j = .int (ig a j) := by simp [oV, h]
theorem oV_r {k j a q : Nat} {ig : sI} {rg : sR} (h : isRf k j = true) (e : rg a j = some q) : oV k ig rg a j = .ref q := by simp [oV, h, e, va_rf]
theorem oV_n {k j a : Nat} {ig : sI} {rg : sR} (h : isRf k j = true) (e : rg a j = none) : oV k ig rg a j = .null := by simp [oV, h, e, va_rf]
theorem oV_q {k j a : Nat} {ig : sI} {rg : sR} (h : isRf k j = true) : oV k ig rg a j = va_rf (rg a j) := by simp [oV, h]
theorem PWat.lt {D : va_G} {cA : Nat → ClassId} {ig : sI} {rg : sR} {lg : sG} {a k n : Nat} {H : Heap} (h : PWat D cA ig rg lg a k n H) : a < H.size := by
  unfold PWat at h
  split at h
  · obtain ⟨cell, h2, -⟩ := h
    exact (Array.getElem?_eq_some_iff.mp h2).1
  · exact (Array.getElem?_eq_some_iff.mp h).1
theorem PWat.kept {D : va_G} {cA : Nat → ClassId} {ig ig' : sI} {rg rg' : sR} {lg lg' : sG} {a k n : Nat} {H H' : Heap} (h : PWat D cA ig rg lg a k n H) (hq : H'[a]? = H[a]?) (hi : ∀ j, ig' a j = ig a j) (hr : ∀ j, rg' a j = rg a j) (hl : ∀ j, lg' a j = lg a j) : PWat D cA ig' rg' lg' a k n H' := by
  unfold PWat at h ⊢
  split at h
  · rename_i hk
    rw [if_pos hk]
    exact (h.kept hq).to (fun j _ => by simp only [oV, hi, hr])
  · rename_i hk
    rw [if_neg hk, hq, h]
    congr 2
    funext j
    simp only [aV, hi, hr, hl]
theorem PW.put {D : va_G} {cA : Nat → ClassId} {kd : sK} {ig ig' : sI} {rg rg' : sR} {lg lg' : sG} {a k n : Nat} {H H' : Heap} (h : PW D cA kd ig rg lg H) (ha : kd a = some (k, n)) (hat : PWat D cA ig' rg' lg' a k n H') (e3 : ∀ q, q ≠ a → H'[q]? = H[q]?)
    (hi : ∀ b j, b ≠ a → ig' b j = ig b j) (hr : ∀ b j, b ≠ a → rg' b j = rg b j) (hl : ∀ b j, b ≠ a → lg' b j = lg b j) : PW D cA kd ig' rg' lg' H' := by
  intro b k' n' hb
  by_cases hba : b = a
  · subst hba
    rw [ha] at hb
    cases hb
    exact hat
  · exact (h b k' n' hb).kept (e3 b hba) (fun j => hi b j hba) (fun j => hr b j hba) (fun j => hl b j hba)
theorem PW.new {D : va_G} {cA : Nat → ClassId} {kd : sK} {ig ig' : sI} {rg rg' : sR} {lg lg' : sG} {k n : Nat} {H H' : Heap} (h : PW D cA kd ig rg lg H) (hat : PWat D cA ig' rg' lg' H.size k n H') (e3 : ∀ q, q < H.size → H'[q]? = H[q]?)
    (hi : ∀ b j, b ≠ H.size → ig' b j = ig b j) (hr : ∀ b j, b ≠ H.size → rg' b j = rg b j) (hl : ∀ b j, b ≠ H.size → lg' b j = lg b j) : PW D cA (upK kd H.size k n) ig' rg' lg' H' := by
  intro b k' n' hb
  by_cases hba : b = H.size
  · subst hba
    rw [upK_eq] at hb
    cases hb
    exact hat
  · rw [upK_ne hba] at hb
    have h1 := h b k' n' hb
    exact h1.kept (e3 b h1.lt) (fun j => hi b j hba) (fun j => hr b j hba) (fun j => hl b j hba)
def tysA (cA : Nat → ClassId) : List (ClassId × FieldType) := [(cA 20, .int), (cA 21, .char), (cA 22, .boolean), (cA 23, .long), (cA 24, .object "SheetDoctor$Cell")]
def NWs : List Cond := [.methodLinkNest RX6 42 yX11_onSheet RX11, .methodLinkNest RX5 93 yX11_setBit RX11, .methodLinkNest RX5 85 yX11_hasBit RX11, .methodLinkNest RX9 72 yX11_onSheet RX11, .methodLinkNest RX5 75 yX11_onSheet RX11, .methodLinkNest RX8 63 yX11_onSheet RX11, .methodLinkNest RX8 118 yX11_hasBit RX11, .methodLinkNest RX8 122 yX11_setBit RX11, .methodLinkNest RX2 46 yX11_onSheet RX11, .methodLinkNest RX10 65 yX11_onSheet RX11]
def KN (D : va_G) (cA : Nat → ClassId) (U : State) : Prop := va_K D vwCl (tysA cA) U ∧ (∀ w ∈ NWs, va_Nw w U) ∧ va_AO RX0 U
theorem KN.warm {D : va_G} {cA : Nat → ClassId} {s U : State} (hW : s.WarmedH U.vm) (h : KN D cA s) : KN D cA U := by
  refine ⟨va_K.moved hW.alike h.1, fun w hw => ?_, va_AO.moved hW.alike h.2.2⟩
  have h2 := h.2.1 w hw
  simp only [NWs, List.mem_cons, List.not_mem_nil, or_false] at hw
  rcases hw with e | e | e | e | e | e | e | e | e | e <;> (subst e; exact va_Nw.warmM hW h2)
theorem KN.same {D : va_G} {cA : Nat → ClassId} {s U : State} (hvm : s.vm = U.vm) (h : KN D cA s) : KN D cA U := by
  refine ⟨va_K.moved (hvm ▸ Vm.Alike.refl s.vm) h.1, fun w hw => ?_, va_AO.moved (hvm ▸ Vm.Alike.refl s.vm) h.2.2⟩
  have h2 := h.2.1 w hw
  simp only [NWs, List.mem_cons, List.not_mem_nil, or_false] at hw
  rcases hw with e | e | e | e | e | e | e | e | e | e <;> (subst e; exact va_Nw.same rfl hvm h2)
/-- a field by its place in the constant pool -/
def FL (own : String) (index k j : Nat) (fin : Bool) (ty : FieldType) : Prop :=
  ∃ (Cn : String) (T : u_T) (N : Nat) (t0 : Nat → FieldType), vwCl[k]? = some (Cn, T, N) ∧ j < N ∧ k < 13 ∧ nf k = N ∧ (∀ w ∈ u_ws Cn T N, w ∈ TBg) ∧ Cond.fieldLink own index (T j).1 (T j).2.1 (T j).2.2.1 ∈ TBg ∧ (T j).1 = Cn ∧
    (∀ q, q < N → parseFieldDescriptor (T q).2.2.1 = some (t0 q)) ∧ (∀ a, a < N → ∀ b, b < N → a ≠ b → (T a).2.1 ≠ (T b).2.1) ∧ (T j).2.2.2 = fin ∧ t0 j = ty
abbrev Cx (p : Program) (m : MethodId) (c : Code) (cc : ByteArray) (nL : Nat) (s : State) (args : Array Value) (own : String) (D : va_G) (cA : Nat → ClassId) : Prop := CallFix p m c cc nL s args TBg own ∧ KN D cA s
end
section
section ROWS
variable {p : Program} {l : Launch} {e : Env} {R : Room} {s : State} {m : MethodId} {args : Array Value} {below : List Frame} {meth : Method} {c : Code} {H : Heap} {locs : List Loc} {cells slots : Nat} {Q : State → Prop}
variable {cc : ByteArray} {pc : Nat} {ls : Array Slot} {rest : List Value} {B : Nat} {D : va_G} {cA : Nat → ClassId} {kd : sK} {ig : sI} {rg : sR} {lg : sG} {own : String} {nL : Nat}
theorem WD.ge (hw : WD B D cA s.heap kd ig rg lg H locs) {a k n : Nat} (ha : kd a = some (k, n)) : B ≤ a := hw.2.1 a (by rw [ha]; simp)
theorem WD.lt (hw : WD B D cA s.heap kd ig rg lg H locs) {a k n : Nat} (ha : kd a = some (k, n)) : a < H.size := (hw.1 a k n ha).lt
theorem WD.size (hw : WD B D cA s.heap kd ig rg lg H locs) : B ≤ H.size := Nat.le_trans hw.2.2.2 hw.2.2.1.1
theorem WD.fresh (hw : WD B D cA s.heap kd ig rg lg H locs) : kd H.size = none := by
  cases h : kd H.size with
  | none => rfl
  | some q => exact absurd (hw.lt (k := q.1) (n := q.2) h) (Nat.lt_irrefl _)
/-- getfield -/
theorem r_get (C : Cx p m c cc nL s args own D cA) (hw : WD B D cA s.heap kd ig rg lg H locs) {a k n j index : Nat} {fin : Bool} {ty : FieldType} (ha : kd a = some (k, n)) (fl : FL own index k j fin ty) {v : Value} (hv : oV k ig rg a j = v) (hdg : decode cc pc = .ok (.getfield index, 3))
    (kk : W p l e R s m args below meth c H locs cells slots Q (F0 m (pc + 3) ls (v :: rest))) : W p l e R s m args below meth c H locs cells slots Q (F0 m pc ls (.ref a :: rest)) := by
  obtain ⟨Cn, T, N, t0, h1, h2, h3, h4, h5, h6, h7, h8, h9, h10, h11⟩ := fl
  have hob := hw.1 a k n ha
  unfold PWat at hob
  rw [if_pos h3] at hob
  obtain ⟨cell, q1, q2, q3, q4⟩ := hob
  obtain ⟨⟨hx, hb, hml, hown, hts⟩, hK⟩ := C
  obtain ⟨hS, hfc, kC, hkC, hkind⟩ := hK.1.1 k _ h1
  obtain ⟨cf, kf, fi, f, hi, hsl⟩ := hS j h2
  refine W.getf hx hb hown (hts _ h6) hi (u_facts hfc hkC (u_lays hts h5 h2) hi).1 q1 (by rw [q3]; exact fun h => by cases h) (v := v) ?_ rfl rfl hdg kk
  rw [hsl, q4 j (by rw [h4]; exact h2), hv]
/-- putfield of a number -/
theorem r_puti (C : Cx p m c cc nL s args own D cA) (hw : WD B D cA s.heap kd ig rg lg H locs) {a k n j index : Nat} {ty : FieldType} {x : Int32} (ha : kd a = some (k, n)) (fl : FL own index k j false ty) (hj : isRf k j = false) (hn : narrow ty (.int x) = .int x) (hf : fits ty (.int x) = true) (hdg : decode cc pc = .ok (.putfield index, 3))
    (kk : ∀ (H1 : Heap) (locs1 : List Loc), H1.size = H.size → WD B D cA s.heap kd (up2 ig a j x) rg lg H1 locs1 → W p l e R s m args below meth c H1 locs1 cells slots Q (F0 m (pc + 3) ls rest)) : W p l e R s m args below meth c H locs cells slots Q (F0 m pc ls (.int x :: .ref a :: rest)) := by
  obtain ⟨Cn, T, N, t0, h1, h2, h3, h4, h5, h6, h7, h8, h9, h10, h11⟩ := fl
  have hob := hw.1 a k n ha
  unfold PWat at hob
  rw [if_pos h3] at hob
  obtain ⟨cell, q1, q2, q3, q4⟩ := hob
  obtain ⟨⟨hx, hb, hml, hown, hts⟩, hK⟩ := C
  have hap := va_apart (own := own) hts h5 t0 h8 h9 hK.1 h1
  obtain ⟨hS, hfc, kC, hkC, hkind⟩ := hK.1.1 k _ h1
  obtain ⟨cf, kf, fi, f, hi, hsl⟩ := hS j h2
  have hlay := hts _ (h5 _ (u_in_lay h2))
  unfold u_lay at hlay
  rw [if_neg (by rw [h10]; decide)] at hlay
  have h12 := u_store hfc hkC hkind hlay hi (h8 j h2) (by rw [h11]; exact hn) (by rw [h11]; exact hf)
  rw [h4] at q4
  refine W.putK hx hb (f := f) ⟨hown, hts _ h6, ⟨_, _, _, hi⟩, (u_facts hfc hkC (u_lays hts h5 h2) hi).1⟩ (by rw [q2]; exact h12) q1 q3 (by rw [hsl]; exact k2_hasslot (q4 j h2)) rfl rfl hdg fun H' e1 e2 e3 => ?_
  rw [hsl] at e1 ⊢
  refine kk H' _ e2 ⟨hw.1.put ha ?_ e3 (fun b i hb' => up2_a hb') (fun _ _ _ => rfl) (fun _ _ _ => rfl), hw.2.1, hw.2.2.1.put e2 e3 (hw.ge ha), hw.2.2.2⟩
  unfold PWat
  rw [if_pos h3, h4]
  refine t_OB.to (V := updV (oV k ig rg a) j (.int x)) ⟨_, e1, q2, q3, t_set q4 hap h2 _⟩ (fun i _ => ?_)
  by_cases hij : i = j
  · subst hij
    simp [updV, oV, hj, up2]
  · simp [updV, oV, hij, up2]
/-- putfield of a reference -/
theorem r_putr (C : Cx p m c cc nL s args own D cA) (hw : WD B D cA s.heap kd ig rg lg H locs) {a k n j index : Nat} {ty : FieldType} {v : Value} (r : Option Nat) (hv : va_rf r = v) (ha : kd a = some (k, n)) (fl : FL own index k j false ty) (hj : isRf k j = true) (hn : narrow ty v = v) (hf : fits ty v = true) (hdg : decode cc pc = .ok (.putfield index, 3))
    (kk : ∀ (H1 : Heap) (locs1 : List Loc), H1.size = H.size → WD B D cA s.heap kd ig (up2 rg a j r) lg H1 locs1 → W p l e R s m args below meth c H1 locs1 cells slots Q (F0 m (pc + 3) ls rest)) : W p l e R s m args below meth c H locs cells slots Q (F0 m pc ls (v :: .ref a :: rest)) := by
  subst hv
  obtain ⟨Cn, T, N, t0, h1, h2, h3, h4, h5, h6, h7, h8, h9, h10, h11⟩ := fl
  have hob := hw.1 a k n ha
  unfold PWat at hob
  rw [if_pos h3] at hob
  obtain ⟨cell, q1, q2, q3, q4⟩ := hob
  obtain ⟨⟨hx, hb, hml, hown, hts⟩, hK⟩ := C
  have hap := va_apart (own := own) hts h5 t0 h8 h9 hK.1 h1
  obtain ⟨hS, hfc, kC, hkC, hkind⟩ := hK.1.1 k _ h1
  obtain ⟨cf, kf, fi, f, hi, hsl⟩ := hS j h2
  have hlay := hts _ (h5 _ (u_in_lay h2))
  unfold u_lay at hlay
  rw [if_neg (by rw [h10]; decide)] at hlay
  have h12 := u_store hfc hkC hkind hlay hi (h8 j h2) (by rw [h11]; exact hn) (by rw [h11]; exact hf)
  rw [h4] at q4
  refine W.putK hx hb (f := f) ⟨hown, hts _ h6, ⟨_, _, _, hi⟩, (u_facts hfc hkC (u_lays hts h5 h2) hi).1⟩ (by rw [q2]; exact h12) q1 q3 (by rw [hsl]; exact k2_hasslot (q4 j h2)) rfl rfl hdg fun H' e1 e2 e3 => ?_
  rw [hsl] at e1 ⊢
  refine kk H' _ e2 ⟨hw.1.put ha ?_ e3 (fun _ _ _ => rfl) (fun b i hb' => up2_a hb') (fun _ _ _ => rfl), hw.2.1, hw.2.2.1.put e2 e3 (hw.ge ha), hw.2.2.2⟩
  unfold PWat
  rw [if_pos h3, h4]
  refine t_OB.to (V := updV (oV k ig rg a) j (va_rf r)) ⟨_, e1, q2, q3, t_set q4 hap h2 _⟩ (fun i _ => ?_)
  by_cases hij : i = j
  · subst hij
    simp [updV, oV, hj, up2]
  · simp [updV, oV, hij, up2]
/-- .. of final fields in the constructor -/
theorem r_putiF (C : Cx p m c cc nL s args own D cA) (hw : WD B D cA s.heap kd ig rg lg H locs) {a k n j index : Nat} {ty : FieldType} {x : Int32} (hin2 : meth.name = "<init>") (hC : (vwCl[k]?).map (fun q => q.1) = some own) (ha : kd a = some (k, n)) (fl : FL own index k j true ty) (hj : isRf k j = false) (hn : narrow ty (.int x) = .int x) (hf : fits ty (.int x) = true) (hdg : decode cc pc = .ok (.putfield index, 3))
    (kk : ∀ (H1 : Heap) (locs1 : List Loc), H1.size = H.size → WD B D cA s.heap kd (up2 ig a j x) rg lg H1 locs1 → W p l e R s m args below meth c H1 locs1 cells slots Q (F0 m (pc + 3) ls rest)) : W p l e R s m args below meth c H locs cells slots Q (F0 m pc ls (.int x :: .ref a :: rest)) := by
  obtain ⟨Cn, T, N, t0, h1, h2, h3, h4, h5, h6, h7, h8, h9, h10, h11⟩ := fl
  have hob := hw.1 a k n ha
  unfold PWat at hob
  rw [if_pos h3] at hob
  obtain ⟨cell, q1, q2, q3, q4⟩ := hob
  rw [h1] at hC
  have hCn : Cn = own := Option.some.inj hC
  obtain ⟨⟨hx, hb, hml, hown, hts⟩, hK⟩ := C
  have hap := va_apart (own := own) hts h5 t0 h8 h9 hK.1 h1
  obtain ⟨hS, hfc, kC, hkC, hkind⟩ := hK.1.1 k _ h1
  obtain ⟨cf, kf, fi, f, hi, hsl⟩ := hS j h2
  have hlay := hts _ (h5 _ (u_in_lay h2))
  unfold u_lay at hlay
  rw [if_pos h10] at hlay
  have hcf : m.cls = cf := by
    obtain ⟨_, _, c', _, _, _, -, -, hf', -, -, -, hown2, -⟩ := Cond.laysFinal_spec hlay
    have e1 : c' = cf := by have := hi.symm.trans hf'; simp at this; exact this.1.symm
    rw [h7, hCn] at hown2
    rw [← e1]; exact Option.some.inj (hown.symm.trans hown2)
  have h12 := u_fits hfc hkC hkind (Or.inr hlay) hi (h8 j h2) (by rw [h11]; exact hn) (by rw [h11]; exact hf)
  rw [h4] at q4
  refine W.putFinK hx hb hown (hts _ h6) hi (u_facts hfc hkC (u_lays hts h5 h2) hi).1 hcf hin2 (by rw [q2]; exact h12) q1 q3 (by rw [hsl]; exact k2_hasslot (q4 j h2)) rfl rfl hdg fun H' e1 e2 e3 => ?_
  rw [hsl] at e1 ⊢
  refine kk H' _ e2 ⟨hw.1.put ha ?_ e3 (fun b i hb' => up2_a hb') (fun _ _ _ => rfl) (fun _ _ _ => rfl), hw.2.1, hw.2.2.1.put e2 e3 (hw.ge ha), hw.2.2.2⟩
  unfold PWat
  rw [if_pos h3, h4]
  refine t_OB.to (V := updV (oV k ig rg a) j (.int x)) ⟨_, e1, q2, q3, t_set q4 hap h2 _⟩ (fun i _ => ?_)
  by_cases hij : i = j
  · subst hij
    simp [updV, oV, hj, up2]
  · simp [updV, oV, hij, up2]
theorem r_putrF (C : Cx p m c cc nL s args own D cA) (hw : WD B D cA s.heap kd ig rg lg H locs) {a k n j index : Nat} {ty : FieldType} {v : Value} (r : Option Nat) (hv : va_rf r = v) (hin2 : meth.name = "<init>") (hC : (vwCl[k]?).map (fun q => q.1) = some own) (ha : kd a = some (k, n)) (fl : FL own index k j true ty) (hj : isRf k j = true) (hn : narrow ty v = v) (hf : fits ty v = true) (hdg : decode cc pc = .ok (.putfield index, 3))
    (kk : ∀ (H1 : Heap) (locs1 : List Loc), H1.size = H.size → WD B D cA s.heap kd ig (up2 rg a j r) lg H1 locs1 → W p l e R s m args below meth c H1 locs1 cells slots Q (F0 m (pc + 3) ls rest)) : W p l e R s m args below meth c H locs cells slots Q (F0 m pc ls (v :: .ref a :: rest)) := by
  subst hv
  obtain ⟨Cn, T, N, t0, h1, h2, h3, h4, h5, h6, h7, h8, h9, h10, h11⟩ := fl
  have hob := hw.1 a k n ha
  unfold PWat at hob
  rw [if_pos h3] at hob
  obtain ⟨cell, q1, q2, q3, q4⟩ := hob
  rw [h1] at hC
  have hCn : Cn = own := Option.some.inj hC
  obtain ⟨⟨hx, hb, hml, hown, hts⟩, hK⟩ := C
  have hap := va_apart (own := own) hts h5 t0 h8 h9 hK.1 h1
  obtain ⟨hS, hfc, kC, hkC, hkind⟩ := hK.1.1 k _ h1
  obtain ⟨cf, kf, fi, f, hi, hsl⟩ := hS j h2
  have hlay := hts _ (h5 _ (u_in_lay h2))
  unfold u_lay at hlay
  rw [if_pos h10] at hlay
  have hcf : m.cls = cf := by
    obtain ⟨_, _, c', _, _, _, -, -, hf', -, -, -, hown2, -⟩ := Cond.laysFinal_spec hlay
    have e1 : c' = cf := by have := hi.symm.trans hf'; simp at this; exact this.1.symm
    rw [h7, hCn] at hown2
    rw [← e1]; exact Option.some.inj (hown.symm.trans hown2)
  have h12 := u_fits hfc hkC hkind (Or.inr hlay) hi (h8 j h2) (by rw [h11]; exact hn) (by rw [h11]; exact hf)
  rw [h4] at q4
  refine W.putFinK hx hb hown (hts _ h6) hi (u_facts hfc hkC (u_lays hts h5 h2) hi).1 hcf hin2 (by rw [q2]; exact h12) q1 q3 (by rw [hsl]; exact k2_hasslot (q4 j h2)) rfl rfl hdg fun H' e1 e2 e3 => ?_
  rw [hsl] at e1 ⊢
  refine kk H' _ e2 ⟨hw.1.put ha ?_ e3 (fun _ _ _ => rfl) (fun b i hb' => up2_a hb') (fun _ _ _ => rfl), hw.2.1, hw.2.2.1.put e2 e3 (hw.ge ha), hw.2.2.2⟩
  unfold PWat
  rw [if_pos h3, h4]
  refine t_OB.to (V := updV (oV k ig rg a) j (va_rf r)) ⟨_, e1, q2, q3, t_set q4 hap h2 _⟩ (fun i _ => ?_)
  by_cases hij : i = j
  · subst hij
    simp [updV, oV, hj, up2]
  · simp [updV, oV, hij, up2]
theorem in_of {i : Int32} {n : Nat} (h0 : 0 ≤ i.toInt) (h1 : i.toInt < (n : Int)) : vp_in i n := vp_in_iff.mpr ⟨h0, h1⟩
theorem PW.arr (h : PW D cA kd ig rg lg H) {a k n : Nat} (ha : kd a = some (k, n)) (hk : ¬ k < 13) : H[a]? = some (arrV (cA k) n (aV k ig rg lg a)) := by
  have h1 := h a k n ha
  unfold PWat at h1
  rwa [if_neg hk] at h1
theorem r_alen (C : Cx p m c cc nL s args own D cA) (hw : WD B D cA s.heap kd ig rg lg H locs) {a k n : Nat} (ha : kd a = some (k, n)) (hk : k = 20 ∨ k = 21 ∨ k = 22 ∨ k = 23 ∨ k = 24) (hn : n < 2147483648) (hdg : decode cc pc = .ok (.arraylength, 1))
    (kk : ∀ z : Int32, z.toInt = (n : Int) → W p l e R s m args below meth c H locs cells slots Q (F0 m (pc + 1) ls (.int z :: rest))) : W p l e R s m args below meth c H locs cells slots Q (F0 m pc ls (.ref a :: rest)) := by
  obtain ⟨⟨hx, hb, hml, hown, hts⟩, hK⟩ := C
  have hc := hw.1.arr ha (by omega)
  have hT : ∃ ty, ArrOfT s (cA k) ty := by
    rcases hk with e | e | e | e | e <;> subst e
    · exact ⟨_, (hK.1.2 0 _ rfl).1⟩
    · exact ⟨_, (hK.1.2 1 _ rfl).1⟩
    · exact ⟨_, (hK.1.2 2 _ rfl).1⟩
    · exact ⟨_, (hK.1.2 3 _ rfl).1⟩
    · exact ⟨_, (hK.1.2 4 _ rfl).1⟩
  obtain ⟨ty, hT⟩ := hT
  refine W.alen (n := nI n) hx hb hc (hT n _) (by rw [arrV_size]; rfl) rfl rfl hdg (kk _ (nI_toInt hn))
theorem r_iald (C : Cx p m c cc nL s args own D cA) (hw : WD B D cA s.heap kd ig rg lg H locs) {a n : Nat} {i : Int32} (ha : kd a = some (20, n)) (h0 : 0 ≤ i.toInt) (h1 : i.toInt < (n : Int)) (hdg : decode cc pc = .ok (.iaload, 1))
    (kk : W p l e R s m args below meth c H locs cells slots Q (F0 m (pc + 1) ls (.int (ig a i.toInt.toNat) :: rest))) : W p l e R s m args below meth c H locs cells slots Q (F0 m pc ls (.int i :: .ref a :: rest)) := by
  obtain ⟨⟨hx, hb, hml, hown, hts⟩, hK⟩ := C
  have hin := in_of h0 h1
  have hlt : i.toNatClampNeg < n := Nat.not_le.mp fun q => hin (Or.inr q)
  exact W.iald (v := .int (ig a i.toInt.toNat)) hx hb (hw.1.arr ha (by decide)) ((hK.1.2 0 _ rfl).1 n _) (fun q => by cases q) (by rw [arrV_size]; exact hin) (by rw [arrV_read _ _ hlt]; rfl) rfl rfl hdg kk
theorem r_cald (C : Cx p m c cc nL s args own D cA) (hw : WD B D cA s.heap kd ig rg lg H locs) {a n : Nat} {i : Int32} (ha : kd a = some (21, n)) (h0 : 0 ≤ i.toInt) (h1 : i.toInt < (n : Int)) (hdg : decode cc pc = .ok (.caload, 1))
    (kk : W p l e R s m args below meth c H locs cells slots Q (F0 m (pc + 1) ls (.int (ig a i.toInt.toNat) :: rest))) : W p l e R s m args below meth c H locs cells slots Q (F0 m pc ls (.int i :: .ref a :: rest)) := by
  obtain ⟨⟨hx, hb, hml, hown, hts⟩, hK⟩ := C
  have hin := in_of h0 h1
  have hlt : i.toNatClampNeg < n := Nat.not_le.mp fun q => hin (Or.inr q)
  exact W.cald (v := .int (ig a i.toInt.toNat)) hx hb (hw.1.arr ha (by decide)) ((hK.1.2 1 _ rfl).1 n _) (fun q => by cases q) (by rw [arrV_size]; exact hin) (by rw [arrV_read _ _ hlt]; rfl) rfl rfl hdg kk
theorem r_zald (C : Cx p m c cc nL s args own D cA) (hw : WD B D cA s.heap kd ig rg lg H locs) {a n : Nat} {i : Int32} (ha : kd a = some (22, n)) (h0 : 0 ≤ i.toInt) (h1 : i.toInt < (n : Int)) (hdg : decode cc pc = .ok (.baload, 1))
    (kk : W p l e R s m args below meth c H locs cells slots Q (F0 m (pc + 1) ls (.int (ig a i.toInt.toNat) :: rest))) : W p l e R s m args below meth c H locs cells slots Q (F0 m pc ls (.int i :: .ref a :: rest)) := by
  obtain ⟨⟨hx, hb, hml, hown, hts⟩, hK⟩ := C
  have hin := in_of h0 h1
  have hlt : i.toNatClampNeg < n := Nat.not_le.mp fun q => hin (Or.inr q)
  exact W.zald (v := .int (ig a i.toInt.toNat)) hx hb (hw.1.arr ha (by decide)) ((hK.1.2 2 _ rfl).1 n _) (fun q => by cases q) (by rw [arrV_size]; exact hin) (by rw [arrV_read _ _ hlt]; rfl) rfl rfl hdg kk
theorem r_lald (C : Cx p m c cc nL s args own D cA) (hw : WD B D cA s.heap kd ig rg lg H locs) {a n : Nat} {i : Int32} (ha : kd a = some (23, n)) (h0 : 0 ≤ i.toInt) (h1 : i.toInt < (n : Int)) (hdg : decode cc pc = .ok (.laload, 1))
    (kk : W p l e R s m args below meth c H locs cells slots Q (F0 m (pc + 1) ls (.long (lg a i.toInt.toNat) :: rest))) : W p l e R s m args below meth c H locs cells slots Q (F0 m pc ls (.int i :: .ref a :: rest)) := by
  obtain ⟨⟨hx, hb, hml, hown, hts⟩, hK⟩ := C
  have hin := in_of h0 h1
  have hlt : i.toNatClampNeg < n := Nat.not_le.mp fun q => hin (Or.inr q)
  exact W.lald (v := .long (lg a i.toInt.toNat)) hx hb (hw.1.arr ha (by decide)) ((hK.1.2 3 _ rfl).1 n _) (fun q => by cases q) (by rw [arrV_size]; exact hin) (by rw [arrV_read _ _ hlt]; rfl) rfl rfl hdg kk
theorem r_aald (C : Cx p m c cc nL s args own D cA) (hw : WD B D cA s.heap kd ig rg lg H locs) {a n : Nat} {i : Int32} (ha : kd a = some (24, n)) (h0 : 0 ≤ i.toInt) (h1 : i.toInt < (n : Int)) {v : Value} (hv : va_rf (rg a i.toInt.toNat) = v) (hdg : decode cc pc = .ok (.aaload, 1))
    (kk : W p l e R s m args below meth c H locs cells slots Q (F0 m (pc + 1) ls (v :: rest))) : W p l e R s m args below meth c H locs cells slots Q (F0 m pc ls (.int i :: .ref a :: rest)) := by
  obtain ⟨⟨hx, hb, hml, hown, hts⟩, hK⟩ := C
  have hin := in_of h0 h1
  have hlt : i.toNatClampNeg < n := Nat.not_le.mp fun q => hin (Or.inr q)
  exact W.aald (v := v) (ty := .object "SheetDoctor$Cell") hx hb (hw.1.arr ha (by decide)) ((hK.1.2 4 _ rfl).1 n _) rfl (fun q => by cases q) (by rw [arrV_size]; exact hin) (by rw [arrV_read _ _ hlt, ← hv]; rfl) rfl rfl hdg kk
end ROWS
end
section
section ROWS2
variable {p : Program} {l : Launch} {e : Env} {R : Room} {s : State} {m : MethodId} {args : Array Value} {below : List Frame} {meth : Method} {c : Code} {H : Heap} {locs : List Loc} {cells slots : Nat} {Q : State → Prop}
variable {cc : ByteArray} {pc : Nat} {ls : Array Slot} {rest : List Value} {B : Nat} {D : va_G} {cA : Nat → ClassId} {kd : sK} {ig : sI} {rg : sR} {lg : sG} {own : String} {nL : Nat}
theorem PWat_arr {a k n : Nat} (hk : ¬ k < 13) (h : H[a]? = some (arrV (cA k) n (aV k ig rg lg a))) : PWat D cA ig rg lg a k n H := by
  unfold PWat
  rwa [if_neg hk]
theorem aV_up {k a j : Nat} {x : Int32} (hk : k ≠ 23 ∧ k ≠ 24) : updV (aV k ig rg lg a) j (.int x) = aV k (up2 ig a j x) rg lg a := by
  funext i
  by_cases hij : i = j
  · subst hij
    simp [updV, aV, hk, up2]
  · simp [updV, aV, hk, hij, up2]
theorem r_iast (C : Cx p m c cc nL s args own D cA) (hw : WD B D cA s.heap kd ig rg lg H locs) {a n : Nat} {i x : Int32} (ha : kd a = some (20, n)) (h0 : 0 ≤ i.toInt) (h1 : i.toInt < (n : Int)) (hdg : decode cc pc = .ok (.iastore, 1))
    (kk : ∀ (H1 : Heap) (locs1 : List Loc), H1.size = H.size → WD B D cA s.heap kd (up2 ig a i.toInt.toNat x) rg lg H1 locs1 → W p l e R s m args below meth c H1 locs1 cells slots Q (F0 m (pc + 1) ls rest)) : W p l e R s m args below meth c H locs cells slots Q (F0 m pc ls (.int x :: .int i :: .ref a :: rest)) := by
  obtain ⟨⟨hx, hb, hml, hown, hts⟩, hK⟩ := C
  have hin := in_of h0 h1
  refine W.iast hx hb (hw.1.arr ha (by decide)) ((hK.1.2 0 _ rfl).1 n _) (fun q => by cases q) (by rw [arrV_size]; exact hin) rfl rfl hdg fun H1 e1 e2 e3 => ?_
  rw [arrV_store] at e1
  refine kk H1 _ e2 ⟨hw.1.put ha (PWat_arr (by decide) (e1.trans (by rw [← aV_up (by decide)]; rfl))) e3 (fun b i hb' => up2_a hb') (fun _ _ _ => rfl) (fun _ _ _ => rfl), hw.2.1, hw.2.2.1.put e2 e3 (hw.ge ha), hw.2.2.2⟩
theorem r_cast (C : Cx p m c cc nL s args own D cA) (hw : WD B D cA s.heap kd ig rg lg H locs) {a n : Nat} {i x : Int32} (ha : kd a = some (21, n)) (h0 : 0 ≤ i.toInt) (h1 : i.toInt < (n : Int)) (hn : narrow .char (.int x) = .int x) (hdg : decode cc pc = .ok (.castore, 1))
    (kk : ∀ (H1 : Heap) (locs1 : List Loc), H1.size = H.size → WD B D cA s.heap kd (up2 ig a i.toInt.toNat x) rg lg H1 locs1 → W p l e R s m args below meth c H1 locs1 cells slots Q (F0 m (pc + 1) ls rest)) : W p l e R s m args below meth c H locs cells slots Q (F0 m pc ls (.int x :: .int i :: .ref a :: rest)) := by
  obtain ⟨⟨hx, hb, hml, hown, hts⟩, hK⟩ := C
  have hin := in_of h0 h1
  refine W.cast hx hb (hw.1.arr ha (by decide)) ((hK.1.2 1 _ rfl).1 n _) (fun q => by cases q) (by rw [arrV_size]; exact hin) rfl rfl hdg fun H1 e1 e2 e3 => ?_
  rw [arrV_store, hn] at e1
  refine kk H1 _ e2 ⟨hw.1.put ha (PWat_arr (by decide) (e1.trans (by rw [← aV_up (by decide)]; rfl))) e3 (fun b i hb' => up2_a hb') (fun _ _ _ => rfl) (fun _ _ _ => rfl), hw.2.1, hw.2.2.1.put e2 e3 (hw.ge ha), hw.2.2.2⟩
theorem r_zast (C : Cx p m c cc nL s args own D cA) (hw : WD B D cA s.heap kd ig rg lg H locs) {a n : Nat} {i x : Int32} (ha : kd a = some (22, n)) (h0 : 0 ≤ i.toInt) (h1 : i.toInt < (n : Int)) (hn : narrow .boolean (.int x) = .int x) (hdg : decode cc pc = .ok (.bastore, 1))
    (kk : ∀ (H1 : Heap) (locs1 : List Loc), H1.size = H.size → WD B D cA s.heap kd (up2 ig a i.toInt.toNat x) rg lg H1 locs1 → W p l e R s m args below meth c H1 locs1 cells slots Q (F0 m (pc + 1) ls rest)) : W p l e R s m args below meth c H locs cells slots Q (F0 m pc ls (.int x :: .int i :: .ref a :: rest)) := by
  obtain ⟨⟨hx, hb, hml, hown, hts⟩, hK⟩ := C
  have hin := in_of h0 h1
  refine W.zast hx hb (hw.1.arr ha (by decide)) ((hK.1.2 2 _ rfl).1 n _) (fun q => by cases q) (by rw [arrV_size]; exact hin) rfl rfl hdg fun H1 e1 e2 e3 => ?_
  rw [arrV_store, hn] at e1
  refine kk H1 _ e2 ⟨hw.1.put ha (PWat_arr (by decide) (e1.trans (by rw [← aV_up (by decide)]; rfl))) e3 (fun b i hb' => up2_a hb') (fun _ _ _ => rfl) (fun _ _ _ => rfl), hw.2.1, hw.2.2.1.put e2 e3 (hw.ge ha), hw.2.2.2⟩
theorem r_last (C : Cx p m c cc nL s args own D cA) (hw : WD B D cA s.heap kd ig rg lg H locs) {a n : Nat} {i : Int32} {x : Int64} (ha : kd a = some (23, n)) (h0 : 0 ≤ i.toInt) (h1 : i.toInt < (n : Int)) (hdg : decode cc pc = .ok (.lastore, 1))
    (kk : ∀ (H1 : Heap) (locs1 : List Loc), H1.size = H.size → WD B D cA s.heap kd ig rg (up2 lg a i.toInt.toNat x) H1 locs1 → W p l e R s m args below meth c H1 locs1 cells slots Q (F0 m (pc + 1) ls rest)) : W p l e R s m args below meth c H locs cells slots Q (F0 m pc ls (.long x :: .int i :: .ref a :: rest)) := by
  obtain ⟨⟨hx, hb, hml, hown, hts⟩, hK⟩ := C
  have hin := in_of h0 h1
  refine W.last hx hb (hw.1.arr ha (by decide)) ((hK.1.2 3 _ rfl).1 n _) (fun q => by cases q) (by rw [arrV_size]; exact hin) rfl rfl hdg fun H1 e1 e2 e3 => ?_
  rw [arrV_store] at e1
  have e4 : updV (aV 23 ig rg lg a) i.toNatClampNeg (.long x) = aV 23 ig rg (up2 lg a i.toInt.toNat x) a := by
    funext q
    by_cases hq : q = i.toInt.toNat
    · subst hq
      simp [updV, aV, up2]
    · have hq2 : q ≠ i.toNatClampNeg := hq
      simp [updV, aV, up2, hq, hq2]
  rw [e4] at e1
  exact kk H1 _ e2 ⟨hw.1.put ha (PWat_arr (by decide) e1) e3 (fun _ _ _ => rfl) (fun _ _ _ => rfl) (fun b i hb' => up2_a hb'), hw.2.1, hw.2.2.1.put e2 e3 (hw.ge ha), hw.2.2.2⟩
theorem r_aast (C : Cx p m c cc nL s args own D cA) (hw : WD B D cA s.heap kd ig rg lg H locs) {a n v nv : Nat} {i : Int32} (ha : kd a = some (24, n)) (hv : kd v = some (0, nv)) (h0 : 0 ≤ i.toInt) (h1 : i.toInt < (n : Int)) (hdg : decode cc pc = .ok (.aastore, 1))
    (kk : ∀ (H1 : Heap) (locs1 : List Loc), H1.size = H.size → WD B D cA s.heap kd ig (up2 rg a i.toInt.toNat (some v)) lg H1 locs1 → W p l e R s m args below meth c H1 locs1 cells slots Q (F0 m (pc + 1) ls rest)) : W p l e R s m args below meth c H locs cells slots Q (F0 m pc ls (.ref v :: .int i :: .ref a :: rest)) := by
  obtain ⟨⟨hx, hb, hml, hown, hts⟩, hK⟩ := C
  have hin := in_of h0 h1
  have hlt : i.toNatClampNeg < n := Nat.not_le.mp fun q => hin (Or.inr q)
  have h2 : ¬ i < 0 := fun q => hin (Or.inl q)
  have hov := hw.1 v 0 nv hv
  unfold PWat at hov
  rw [if_pos (by decide)] at hov
  obtain ⟨cellV, g1, g2, g3, -⟩ := hov
  have hcls := (hK.1.1 0 _ rfl).2
  obtain ⟨kA, comp, k1, k2, k3, -⟩ := (hK.1.2 4 _ rfl).2
  have hcomp : comp = D.1 0 := Option.some.inj (k3.symm.trans hcls.1)
  subst hcomp
  obtain ⟨kC, hkC, -⟩ := hcls.2
  refine W.aast hx hb (hw.1.arr ha (by decide)) (fun q h => by cases h) (fun h => by cases h) k1 k2 rfl hkC ⟨h2, by rw [arrV_size]; exact hlt⟩ g1 (fun q h => by rw [g3] at h; cases h) (by rw [g2]; exact hkC) (by rw [g2]; exact va_assign hcls) rfl rfl hdg fun H1 e1 e2 e3 => ?_
  rw [arrV_store] at e1
  have e4 : updV (aV 24 ig rg lg a) i.toNatClampNeg (.ref v) = aV 24 ig (up2 rg a i.toInt.toNat (some v)) lg a := by
    funext q
    by_cases hq : q = i.toInt.toNat
    · subst hq
      simp [updV, aV, up2, va_rf]
    · have hq2 : q ≠ i.toNatClampNeg := hq
      simp [updV, aV, up2, hq, hq2]
  rw [e4] at e1
  exact kk H1 _ e2 ⟨hw.1.put ha (PWat_arr (by decide) e1) e3 (fun _ _ _ => rfl) (fun b i hb' => up2_a hb') (fun _ _ _ => rfl), hw.2.1, hw.2.2.1.put e2 e3 (hw.ge ha), hw.2.2.2⟩
/-- what follows a making -/
theorem WD.newS (hw : WD B D cA s.heap kd ig rg lg H locs) {H1 : Heap} (z : H1.size = H.size + 1) (o : ∀ q, q < H.size → H1[q]? = H[q]?) : va_S (fun q => B ≤ q) s.heap H1 locs :=
  ⟨Nat.le_trans hw.2.2.1.1 (by omega), fun q h1 h2 => (o q (Nat.lt_of_lt_of_le h1 hw.2.2.1.1)).trans (hw.2.2.1.2.1 q h1 h2), hw.2.2.1.2.2⟩
theorem WD.newD (hw : WD B D cA s.heap kd ig rg lg H locs) {k n : Nat} : ∀ a, upK kd H.size k n a ≠ none → B ≤ a := by
  intro a h
  by_cases e1 : a = H.size
  · rw [e1]; exact hw.size
  · rw [upK_ne e1] at h; exact hw.2.1 a h
theorem r_newa {k n : Nat} {ty : FieldType} {atype : ArrayType} (C : Cx p m c cc nL s args own D cA) (hw : WD B D cA s.heap kd ig rg lg H locs) (ht : newarray.typeOf atype = ty) (hk : (tysA cA)[k - 20]? = some (cA k, ty)) (hkk : k = 20 ∨ k = 21 ∨ k = 22) (harr : Cond.arrayClass ty ∈ TBg) {i : Int32} (hi : i.toInt = (n : Int)) (hdv : defaultValue ty = .int 0) (hbytes : n * componentBytes ty ≤ 536870912) (hcells : cells + 1 ≤ R.cells) (hslots : slots + n ≤ R.slots) (hdg : decode cc pc = .ok (.newarray atype, 2)) {h : Nat} (hh : H.size = h)
    (kk : ∀ (H1 : Heap), H1.size = h + 1 → WD B D cA s.heap (upK kd h k n) (upR ig h 0) rg lg H1 locs → W p l e R s m args below meth c H1 locs (cells + 1) (slots + n) Q (F0 m (pc + 2) ls (.ref h :: rest))) : W p l e R s m args below meth c H locs cells slots Q (F0 m pc ls (.int i :: rest)) := by
  subst ht
  subst hh
  obtain ⟨⟨hx, hb, hml, hown, hts⟩, hK⟩ := C
  refine va_newaK (N := n) hx hb (hts _ harr) rfl hdg rfl (fun q => by rw [Int32.lt_iff_toInt_lt, hi, Int32.toInt_zero] at q; omega) (by show i.toInt.toNat = n; omega) hbytes hcells hslots rfl fun H1 cB e1 z1 o1 hAr hNm => ?_
  have hRA := (hK.1.2 (k - 20) _ hk).2
  have hcB : cB = cA k := by
    have h2 : s.vm.findClass ("[" ++ (newarray.typeOf atype).toString) = some (cA k) := by
      revert hRA
      cases atype <;> exact fun h => h
    exact Option.some.inj (hNm.symm.trans h2)
  subst hcB
  refine kk H1 z1 ⟨hw.1.new (PWat_arr (by omega) ?_) o1 (fun b j hb' => upR_ne hb') (fun _ _ _ => rfl) (fun _ _ _ => rfl), hw.newD, hw.newS z1 o1, hw.2.2.2⟩
  rw [e1]
  congr 2
  funext j
  rw [hdv]
  simp [aV, upR, show k ≠ 23 by omega, show k ≠ 24 by omega]
theorem r_newl {n : Nat} (C : Cx p m c cc nL s args own D cA) (hw : WD B D cA s.heap kd ig rg lg H locs) (harr : Cond.arrayClass .long ∈ TBg) {i : Int32} (hi : i.toInt = (n : Int)) (hbytes : n * componentBytes .long ≤ 536870912) (hcells : cells + 1 ≤ R.cells) (hslots : slots + n ≤ R.slots) (hdg : decode cc pc = .ok (.newarray .long, 2)) {h : Nat} (hh : H.size = h)
    (kk : ∀ (H1 : Heap), H1.size = h + 1 → WD B D cA s.heap (upK kd h 23 n) ig rg (upR lg h 0) H1 locs → W p l e R s m args below meth c H1 locs (cells + 1) (slots + n) Q (F0 m (pc + 2) ls (.ref h :: rest))) : W p l e R s m args below meth c H locs cells slots Q (F0 m pc ls (.int i :: rest)) := by
  subst hh
  obtain ⟨⟨hx, hb, hml, hown, hts⟩, hK⟩ := C
  refine va_newaK (N := n) (atype := .long) hx hb (hts _ harr) rfl hdg rfl (fun q => by rw [Int32.lt_iff_toInt_lt, hi, Int32.toInt_zero] at q; omega) (by show i.toInt.toNat = n; omega) hbytes hcells hslots rfl fun H1 cB e1 z1 o1 hAr hNm => ?_
  have hRA : s.vm.findClass ("[" ++ FieldType.long.toString) = some (cA 23) := (hK.1.2 3 _ rfl).2
  have hcB : cB = cA 23 := Option.some.inj (hNm.symm.trans hRA)
  subst hcB
  refine kk H1 z1 ⟨hw.1.new (PWat_arr (by omega) ?_) o1 (fun _ _ _ => rfl) (fun _ _ _ => rfl) (fun b j hb' => upR_ne hb'), hw.newD, hw.newS z1 o1, hw.2.2.2⟩
  rw [e1]
  congr 2
  funext j
  simp [aV, upR]
  rfl
theorem r_anew {n : Nat} {index : Nat} (C : Cx p m c cc nL s args own D cA) (hw : WD B D cA s.heap kd ig rg lg H locs) (hcl : Cond.classLink own index RX0 ∈ TBg) {i : Int32} (hi : i.toInt = (n : Int)) (hbytes : n * 4 ≤ 536870912) (hcells : cells + 1 ≤ R.cells) (hslots : slots + n ≤ R.slots) (hdg : decode cc pc = .ok (.anewarray index, 3)) {h : Nat} (hh : H.size = h)
    (kk : ∀ (H1 : Heap), H1.size = h + 1 → WD B D cA s.heap (upK kd h 24 n) ig (upR rg h none) lg H1 locs → W p l e R s m args below meth c H1 locs (cells + 1) (slots + n) Q (F0 m (pc + 3) ls (.ref h :: rest))) : W p l e R s m args below meth c H locs cells slots Q (F0 m pc ls (.int i :: rest)) := by
  subst hh
  obtain ⟨⟨hx, hb, hml, hown, hts⟩, hK⟩ := C
  have hN : i.toNatClampNeg = n := by show i.toInt.toNat = n; omega
  refine W.anew hx hb hown (hts _ hcl) (va_AO.use hK.2.2) rfl hdg rfl (fun q => by rw [Int32.lt_iff_toInt_lt, hi, Int32.toInt_zero] at q; omega) (by rw [hN]; exact hbytes) hcells (by rw [hN]; exact hslots) fun cB kA comp f1 f2 f3 f4 => ?_
  rw [hN]
  obtain ⟨_, _, -, -, -, hRA⟩ := (hK.1.2 4 _ rfl).2
  have hcB : cB = cA 24 := Option.some.inj (f1.symm.trans hRA)
  subst hcB
  have o1 : ∀ q : Nat, q < H.size → (H.push ({ cls := cA 24, slots := Array.replicate n .null, vm := .none } : Cell))[q]? = H[q]? := fun q hq => by rw [Array.getElem?_push, if_neg (Nat.ne_of_lt hq)]
  refine kk _ (by rw [Array.size_push]) ⟨hw.1.new (PWat_arr (by omega) ?_) o1 (fun _ _ _ => rfl) (fun b j hb' => upR_ne hb') (fun _ _ _ => rfl), hw.newD, hw.newS (by rw [Array.size_push]) o1, hw.2.2.2⟩
  rw [Array.getElem?_push_size, show aV 24 ig (upR rg H.size none) lg H.size = fun _ => Value.null from by funext j; simp [aV, upR, va_rf], ← arrV_new]
theorem r_new {k index : Nat} {Cn : String} {T : u_T} {N : Nat} {t0 : Nat → FieldType} (C : Cx p m c cc nL s args own D cA) (hw : WD B D cA s.heap kd ig rg lg H locs) (h1 : vwCl[k]? = some (Cn, T, N)) (h3 : k < 13) (h4 : nf k = N) (h5 : ∀ w ∈ u_ws Cn T N, w ∈ TBg) (h8 : ∀ q, q < N → parseFieldDescriptor (T q).2.2.1 = some (t0 q)) (hd : ∀ j, j < N → defaultValue (t0 j) = if isRf k j = true then .null else .int 0)
    (hcl : Cond.classLink own index Cn ∈ TBg) (hins : Cond.instantiable Cn N ∈ TBg) (hini : Cond.initialized Cn ∈ TBg) (hcells : cells + 1 ≤ R.cells) (hslots : slots + N ≤ R.slots) (hdg : decode cc pc = .ok (.new index, 3)) {h : Nat} (hh : H.size = h)
    (kk : ∀ (H1 : Heap), H1.size = h + 1 → WD B D cA s.heap (upK kd h k 0) (upR ig h 0) (upR rg h none) lg H1 locs → W p l e R s m args below meth c H1 locs (cells + 1) (slots + N) Q (F0 m (pc + 3) ls (.ref h :: rest))) : W p l e R s m args below meth c H locs cells slots Q (F0 m pc ls rest) := by
  subst hh
  obtain ⟨⟨hx, hb, hml, hown, hts⟩, hK⟩ := C
  have hKn := hK.1.1 k _ h1
  refine W.newcK hx hb hown (hts _ hcl) (hts _ hins) (hts _ hini) rfl hdg hcells hslots hKn.2.1 rfl fun H1 kC hkC e1 z1 o1 => ?_
  refine kk H1 z1 ⟨hw.1.new ?_ o1 (fun b j hb' => upR_ne hb') (fun b j hb' => upR_ne hb') (fun _ _ _ => rfl), hw.newD, hw.newS z1 o1, hw.2.2.2⟩
  unfold PWat
  rw [if_pos h3, h4]
  refine (u_born t0 hts h5 hKn hkC e1 h8).to (fun j hj => ?_)
  rw [hd j hj]
  by_cases hr : isRf k j = true
  · simp [oV, hr, upR, va_rf]
  · simp [oV, hr, upR]
end ROWS2
end
