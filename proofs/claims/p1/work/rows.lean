section
-- ===== PART A: goes FIRST, ahead of the names: the tables' words, and 'selects' of the private methods out of them =====
/-- a private method of a class that the tables say can be made, by its rows of tables_1 -/
def lw_okq (q : MethodName × Nat) : Prop := (q.1.cls ≠ "java/lang/invoke/MethodHandle" ∧ q.1.cls ≠ "java/lang/invoke/VarHandle") ∧ Cond.instantiable q.1.cls q.2 ∈ tables_1 ∧ Cond.privateMethod q.1 ∈ tables_1 ∧ Cond.instanceMethod q.1 ∈ tables_1
theorem lw_p0 : lw_okq (⟨"SheetDoctor$Tape", "findTokens", "()V"⟩, 13) := ⟨⟨by decide +kernel, by decide +kernel⟩, List.mem_of_getElem? (i := 36) (by decide +kernel), List.mem_of_getElem? (i := 418) (by decide +kernel), List.mem_of_getElem? (i := 419) (by decide +kernel)⟩
theorem lw_p1 : lw_okq (⟨"SheetDoctor$Tape", "endOfToken", "(I)I"⟩, 13) := ⟨⟨by decide +kernel, by decide +kernel⟩, List.mem_of_getElem? (i := 36) (by decide +kernel), List.mem_of_getElem? (i := 422) (by decide +kernel), List.mem_of_getElem? (i := 423) (by decide +kernel)⟩
theorem lw_p2 : lw_okq (⟨"SheetDoctor$Tape", "kindOf", "(II)I"⟩, 13) := ⟨⟨by decide +kernel, by decide +kernel⟩, List.mem_of_getElem? (i := 36) (by decide +kernel), List.mem_of_getElem? (i := 435) (by decide +kernel), List.mem_of_getElem? (i := 436) (by decide +kernel)⟩
theorem lw_p3 : lw_okq (⟨"SheetDoctor$Tape", "addToken", "(III)V"⟩, 13) := ⟨⟨by decide +kernel, by decide +kernel⟩, List.mem_of_getElem? (i := 36) (by decide +kernel), List.mem_of_getElem? (i := 524) (by decide +kernel), List.mem_of_getElem? (i := 525) (by decide +kernel)⟩
theorem lw_p4 : lw_okq (⟨"SheetDoctor$Tape", "wordAmount", "(II)I"⟩, 13) := ⟨⟨by decide +kernel, by decide +kernel⟩, List.mem_of_getElem? (i := 36) (by decide +kernel), List.mem_of_getElem? (i := 528) (by decide +kernel), List.mem_of_getElem? (i := 529) (by decide +kernel)⟩
theorem lw_p5 : lw_okq (⟨"SheetDoctor$Tape", "digitsAmount", "(II)I"⟩, 13) := ⟨⟨by decide +kernel, by decide +kernel⟩, List.mem_of_getElem? (i := 36) (by decide +kernel), List.mem_of_getElem? (i := 532) (by decide +kernel), List.mem_of_getElem? (i := 533) (by decide +kernel)⟩
theorem lw_p6 : lw_okq (⟨"SheetDoctor$Tape", "sum", "(I)Z"⟩, 13) := ⟨⟨by decide +kernel, by decide +kernel⟩, List.mem_of_getElem? (i := 36) (by decide +kernel), List.mem_of_getElem? (i := 536) (by decide +kernel), List.mem_of_getElem? (i := 537) (by decide +kernel)⟩
theorem lw_p7 : lw_okq (⟨"SheetDoctor$Tape", "product", "(I)Z"⟩, 13) := ⟨⟨by decide +kernel, by decide +kernel⟩, List.mem_of_getElem? (i := 36) (by decide +kernel), List.mem_of_getElem? (i := 540) (by decide +kernel), List.mem_of_getElem? (i := 541) (by decide +kernel)⟩
theorem lw_p8 : lw_okq (⟨"SheetDoctor$Tape", "part", "(I)Z"⟩, 13) := ⟨⟨by decide +kernel, by decide +kernel⟩, List.mem_of_getElem? (i := 36) (by decide +kernel), List.mem_of_getElem? (i := 544) (by decide +kernel), List.mem_of_getElem? (i := 545) (by decide +kernel)⟩
theorem lw_p9 : lw_okq (⟨"SheetDoctor$Tape", "startsPart", "()Z"⟩, 13) := ⟨⟨by decide +kernel, by decide +kernel⟩, List.mem_of_getElem? (i := 36) (by decide +kernel), List.mem_of_getElem? (i := 548) (by decide +kernel), List.mem_of_getElem? (i := 549) (by decide +kernel)⟩
theorem lw_p10 : lw_okq (⟨"SheetDoctor$Tape", "kind", "()I"⟩, 13) := ⟨⟨by decide +kernel, by decide +kernel⟩, List.mem_of_getElem? (i := 36) (by decide +kernel), List.mem_of_getElem? (i := 552) (by decide +kernel), List.mem_of_getElem? (i := 553) (by decide +kernel)⟩
theorem lw_p11 : lw_okq (⟨"SheetDoctor$Tape", "amount", "()I"⟩, 13) := ⟨⟨by decide +kernel, by decide +kernel⟩, List.mem_of_getElem? (i := 36) (by decide +kernel), List.mem_of_getElem? (i := 556) (by decide +kernel), List.mem_of_getElem? (i := 557) (by decide +kernel)⟩
theorem lw_p12 : lw_okq (⟨"SheetDoctor$Tape", "wrong", "(I)Z"⟩, 13) := ⟨⟨by decide +kernel, by decide +kernel⟩, List.mem_of_getElem? (i := 36) (by decide +kernel), List.mem_of_getElem? (i := 560) (by decide +kernel), List.mem_of_getElem? (i := 561) (by decide +kernel)⟩
theorem lw_p13 : lw_okq (⟨"SheetDoctor$Tape", "brackets", "(I)Z"⟩, 13) := ⟨⟨by decide +kernel, by decide +kernel⟩, List.mem_of_getElem? (i := 36) (by decide +kernel), List.mem_of_getElem? (i := 564) (by decide +kernel), List.mem_of_getElem? (i := 565) (by decide +kernel)⟩
theorem lw_p14 : lw_okq (⟨"SheetDoctor$Tape", "take", "(I)Z"⟩, 13) := ⟨⟨by decide +kernel, by decide +kernel⟩, List.mem_of_getElem? (i := 36) (by decide +kernel), List.mem_of_getElem? (i := 568) (by decide +kernel), List.mem_of_getElem? (i := 569) (by decide +kernel)⟩
theorem lw_p15 : lw_okq (⟨"SheetDoctor$Tape", "add", "(III)V"⟩, 13) := ⟨⟨by decide +kernel, by decide +kernel⟩, List.mem_of_getElem? (i := 36) (by decide +kernel), List.mem_of_getElem? (i := 572) (by decide +kernel), List.mem_of_getElem? (i := 573) (by decide +kernel)⟩
def lw_privs_1 : List (MethodName × Nat) := [(⟨"SheetDoctor$Tape", "findTokens", "()V"⟩, 13), (⟨"SheetDoctor$Tape", "endOfToken", "(I)I"⟩, 13), (⟨"SheetDoctor$Tape", "kindOf", "(II)I"⟩, 13), (⟨"SheetDoctor$Tape", "addToken", "(III)V"⟩, 13), (⟨"SheetDoctor$Tape", "wordAmount", "(II)I"⟩, 13), (⟨"SheetDoctor$Tape", "digitsAmount", "(II)I"⟩, 13), (⟨"SheetDoctor$Tape", "sum", "(I)Z"⟩, 13), (⟨"SheetDoctor$Tape", "product", "(I)Z"⟩, 13), (⟨"SheetDoctor$Tape", "part", "(I)Z"⟩, 13), (⟨"SheetDoctor$Tape", "startsPart", "()Z"⟩, 13), (⟨"SheetDoctor$Tape", "kind", "()I"⟩, 13), (⟨"SheetDoctor$Tape", "amount", "()I"⟩, 13), (⟨"SheetDoctor$Tape", "wrong", "(I)Z"⟩, 13), (⟨"SheetDoctor$Tape", "brackets", "(I)Z"⟩, 13), (⟨"SheetDoctor$Tape", "take", "(I)Z"⟩, 13), (⟨"SheetDoctor$Tape", "add", "(III)V"⟩, 13)]
theorem lw_r1 : ∀ q ∈ lw_privs_1, lw_okq q := List.forall_mem_cons.mpr ⟨lw_p0, List.forall_mem_cons.mpr ⟨lw_p1, List.forall_mem_cons.mpr ⟨lw_p2, List.forall_mem_cons.mpr ⟨lw_p3, List.forall_mem_cons.mpr ⟨lw_p4, List.forall_mem_cons.mpr ⟨lw_p5, List.forall_mem_cons.mpr ⟨lw_p6, List.forall_mem_cons.mpr ⟨lw_p7, List.forall_mem_cons.mpr ⟨lw_p8, List.forall_mem_cons.mpr ⟨lw_p9, List.forall_mem_cons.mpr ⟨lw_p10, List.forall_mem_cons.mpr ⟨lw_p11, List.forall_mem_cons.mpr ⟨lw_p12, List.forall_mem_cons.mpr ⟨lw_p13, List.forall_mem_cons.mpr ⟨lw_p14, List.forall_mem_cons.mpr ⟨lw_p15, fun _ h => absurd h List.not_mem_nil⟩⟩⟩⟩⟩⟩⟩⟩⟩⟩⟩⟩⟩⟩⟩⟩
theorem lw_p16 : lw_okq (⟨"SheetDoctor$Tape", "negated", "(I)Z"⟩, 13) := ⟨⟨by decide +kernel, by decide +kernel⟩, List.mem_of_getElem? (i := 36) (by decide +kernel), List.mem_of_getElem? (i := 576) (by decide +kernel), List.mem_of_getElem? (i := 577) (by decide +kernel)⟩
theorem lw_p17 : lw_okq (⟨"SheetDoctor$Tape", "span", "()Z"⟩, 13) := ⟨⟨by decide +kernel, by decide +kernel⟩, List.mem_of_getElem? (i := 36) (by decide +kernel), List.mem_of_getElem? (i := 580) (by decide +kernel), List.mem_of_getElem? (i := 581) (by decide +kernel)⟩
theorem lw_p18 : lw_okq (⟨"SheetDoctor$Tape", "reference", "(II)I"⟩, 13) := ⟨⟨by decide +kernel, by decide +kernel⟩, List.mem_of_getElem? (i := 36) (by decide +kernel), List.mem_of_getElem? (i := 584) (by decide +kernel), List.mem_of_getElem? (i := 585) (by decide +kernel)⟩
theorem lw_p19 : lw_okq (⟨"SheetDoctor$Tape", "single", "()Z"⟩, 13) := ⟨⟨by decide +kernel, by decide +kernel⟩, List.mem_of_getElem? (i := 36) (by decide +kernel), List.mem_of_getElem? (i := 603) (by decide +kernel), List.mem_of_getElem? (i := 604) (by decide +kernel)⟩
theorem lw_p20 : lw_okq (⟨"SheetDoctor$Sheet", "forgetOldest", "()V"⟩, 7) := ⟨⟨by decide +kernel, by decide +kernel⟩, List.mem_of_getElem? (i := 86) (by decide +kernel), List.mem_of_getElem? (i := 644) (by decide +kernel), List.mem_of_getElem? (i := 645) (by decide +kernel)⟩
theorem lw_p21 : lw_okq (⟨"SheetDoctor$Formula", "spanFits", "(II)Z"⟩, 3) := ⟨⟨by decide +kernel, by decide +kernel⟩, List.mem_of_getElem? (i := 607) (by decide +kernel), List.mem_of_getElem? (i := 689) (by decide +kernel), List.mem_of_getElem? (i := 690) (by decide +kernel)⟩
theorem lw_p22 : lw_okq (⟨"SheetDoctor$Families", "familyOf", "(ILSheetDoctor$Formula;)I"⟩, 5) := ⟨⟨by decide +kernel, by decide +kernel⟩, List.mem_of_getElem? (i := 233) (by decide +kernel), List.mem_of_getElem? (i := 753) (by decide +kernel), List.mem_of_getElem? (i := 754) (by decide +kernel)⟩
theorem lw_p23 : lw_okq (⟨"SheetDoctor$Links", "forgetReads", "()V"⟩, 12) := ⟨⟨by decide +kernel, by decide +kernel⟩, List.mem_of_getElem? (i := 155) (by decide +kernel), List.mem_of_getElem? (i := 769) (by decide +kernel), List.mem_of_getElem? (i := 770) (by decide +kernel)⟩
theorem lw_p24 : lw_okq (⟨"SheetDoctor$Links", "gatherReads", "()V"⟩, 12) := ⟨⟨by decide +kernel, by decide +kernel⟩, List.mem_of_getElem? (i := 155) (by decide +kernel), List.mem_of_getElem? (i := 773) (by decide +kernel), List.mem_of_getElem? (i := 774) (by decide +kernel)⟩
theorem lw_p25 : lw_okq (⟨"SheetDoctor$Links", "gatherReadsOf", "(ILSheetDoctor$Formula;)V"⟩, 12) := ⟨⟨by decide +kernel, by decide +kernel⟩, List.mem_of_getElem? (i := 155) (by decide +kernel), List.mem_of_getElem? (i := 781) (by decide +kernel), List.mem_of_getElem? (i := 782) (by decide +kernel)⟩
theorem lw_p26 : lw_okq (⟨"SheetDoctor$Links", "formulasReadBy", "(I)I"⟩, 12) := ⟨⟨by decide +kernel, by decide +kernel⟩, List.mem_of_getElem? (i := 155) (by decide +kernel), List.mem_of_getElem? (i := 794) (by decide +kernel), List.mem_of_getElem? (i := 795) (by decide +kernel)⟩
theorem lw_p27 : lw_okq (⟨"SheetDoctor$Links", "appendToOrder", "(I)V"⟩, 12) := ⟨⟨by decide +kernel, by decide +kernel⟩, List.mem_of_getElem? (i := 155) (by decide +kernel), List.mem_of_getElem? (i := 804) (by decide +kernel), List.mem_of_getElem? (i := 805) (by decide +kernel)⟩
theorem lw_p28 : lw_okq (⟨"SheetDoctor$Links", "release", "(I)V"⟩, 12) := ⟨⟨by decide +kernel, by decide +kernel⟩, List.mem_of_getElem? (i := 155) (by decide +kernel), List.mem_of_getElem? (i := 808) (by decide +kernel), List.mem_of_getElem? (i := 809) (by decide +kernel)⟩
theorem lw_p29 : lw_okq (⟨"SheetDoctor$Links", "findRings", "()V"⟩, 12) := ⟨⟨by decide +kernel, by decide +kernel⟩, List.mem_of_getElem? (i := 155) (by decide +kernel), List.mem_of_getElem? (i := 815) (by decide +kernel), List.mem_of_getElem? (i := 816) (by decide +kernel)⟩
theorem lw_p30 : lw_okq (⟨"SheetDoctor$Links", "reachThrough", "(I)V"⟩, 12) := ⟨⟨by decide +kernel, by decide +kernel⟩, List.mem_of_getElem? (i := 155) (by decide +kernel), List.mem_of_getElem? (i := 820) (by decide +kernel), List.mem_of_getElem? (i := 821) (by decide +kernel)⟩
theorem lw_p31 : lw_okq (⟨"SheetDoctor$Units", "workOut", "(ILSheetDoctor$Formula;)V"⟩, 9) := ⟨⟨by decide +kernel, by decide +kernel⟩, List.mem_of_getElem? (i := 256) (by decide +kernel), List.mem_of_getElem? (i := 840) (by decide +kernel), List.mem_of_getElem? (i := 841) (by decide +kernel)⟩
def lw_privs_2 : List (MethodName × Nat) := [(⟨"SheetDoctor$Tape", "negated", "(I)Z"⟩, 13), (⟨"SheetDoctor$Tape", "span", "()Z"⟩, 13), (⟨"SheetDoctor$Tape", "reference", "(II)I"⟩, 13), (⟨"SheetDoctor$Tape", "single", "()Z"⟩, 13), (⟨"SheetDoctor$Sheet", "forgetOldest", "()V"⟩, 7), (⟨"SheetDoctor$Formula", "spanFits", "(II)Z"⟩, 3), (⟨"SheetDoctor$Families", "familyOf", "(ILSheetDoctor$Formula;)I"⟩, 5), (⟨"SheetDoctor$Links", "forgetReads", "()V"⟩, 12), (⟨"SheetDoctor$Links", "gatherReads", "()V"⟩, 12), (⟨"SheetDoctor$Links", "gatherReadsOf", "(ILSheetDoctor$Formula;)V"⟩, 12), (⟨"SheetDoctor$Links", "formulasReadBy", "(I)I"⟩, 12), (⟨"SheetDoctor$Links", "appendToOrder", "(I)V"⟩, 12), (⟨"SheetDoctor$Links", "release", "(I)V"⟩, 12), (⟨"SheetDoctor$Links", "findRings", "()V"⟩, 12), (⟨"SheetDoctor$Links", "reachThrough", "(I)V"⟩, 12), (⟨"SheetDoctor$Units", "workOut", "(ILSheetDoctor$Formula;)V"⟩, 9)]
theorem lw_r2 : ∀ q ∈ lw_privs_2, lw_okq q := List.forall_mem_cons.mpr ⟨lw_p16, List.forall_mem_cons.mpr ⟨lw_p17, List.forall_mem_cons.mpr ⟨lw_p18, List.forall_mem_cons.mpr ⟨lw_p19, List.forall_mem_cons.mpr ⟨lw_p20, List.forall_mem_cons.mpr ⟨lw_p21, List.forall_mem_cons.mpr ⟨lw_p22, List.forall_mem_cons.mpr ⟨lw_p23, List.forall_mem_cons.mpr ⟨lw_p24, List.forall_mem_cons.mpr ⟨lw_p25, List.forall_mem_cons.mpr ⟨lw_p26, List.forall_mem_cons.mpr ⟨lw_p27, List.forall_mem_cons.mpr ⟨lw_p28, List.forall_mem_cons.mpr ⟨lw_p29, List.forall_mem_cons.mpr ⟨lw_p30, List.forall_mem_cons.mpr ⟨lw_p31, fun _ h => absurd h List.not_mem_nil⟩⟩⟩⟩⟩⟩⟩⟩⟩⟩⟩⟩⟩⟩⟩⟩
theorem lw_p32 : lw_okq (⟨"SheetDoctor$Units", "pushUnitOf", "(I)V"⟩, 9) := ⟨⟨by decide +kernel, by decide +kernel⟩, List.mem_of_getElem? (i := 256) (by decide +kernel), List.mem_of_getElem? (i := 846) (by decide +kernel), List.mem_of_getElem? (i := 847) (by decide +kernel)⟩
theorem lw_p33 : lw_okq (⟨"SheetDoctor$Units", "firstFilled", "(ILSheetDoctor$Formula;I)I"⟩, 9) := ⟨⟨by decide +kernel, by decide +kernel⟩, List.mem_of_getElem? (i := 256) (by decide +kernel), List.mem_of_getElem? (i := 855) (by decide +kernel), List.mem_of_getElem? (i := 856) (by decide +kernel)⟩
theorem lw_p34 : lw_okq (⟨"SheetDoctor$Units", "areSame", "(II)Z"⟩, 9) := ⟨⟨by decide +kernel, by decide +kernel⟩, List.mem_of_getElem? (i := 256) (by decide +kernel), List.mem_of_getElem? (i := 861) (by decide +kernel), List.mem_of_getElem? (i := 862) (by decide +kernel)⟩
theorem lw_p35 : lw_okq (⟨"SheetDoctor$Units", "join", "(I)V"⟩, 9) := ⟨⟨by decide +kernel, by decide +kernel⟩, List.mem_of_getElem? (i := 256) (by decide +kernel), List.mem_of_getElem? (i := 865) (by decide +kernel), List.mem_of_getElem? (i := 866) (by decide +kernel)⟩
theorem lw_p36 : lw_okq (⟨"SheetDoctor$Totals", "forgetTwiceOf", "(I)V"⟩, 8) := ⟨⟨by decide +kernel, by decide +kernel⟩, List.mem_of_getElem? (i := 290) (by decide +kernel), List.mem_of_getElem? (i := 895) (by decide +kernel), List.mem_of_getElem? (i := 896) (by decide +kernel)⟩
theorem lw_p37 : lw_okq (⟨"SheetDoctor$Totals", "gatherTwiceOf", "(ILSheetDoctor$Formula;)V"⟩, 8) := ⟨⟨by decide +kernel, by decide +kernel⟩, List.mem_of_getElem? (i := 290) (by decide +kernel), List.mem_of_getElem? (i := 899) (by decide +kernel), List.mem_of_getElem? (i := 900) (by decide +kernel)⟩
theorem lw_p38 : lw_okq (⟨"SheetDoctor$Totals", "addRead", "(II)V"⟩, 8) := ⟨⟨by decide +kernel, by decide +kernel⟩, List.mem_of_getElem? (i := 290) (by decide +kernel), List.mem_of_getElem? (i := 906) (by decide +kernel), List.mem_of_getElem? (i := 907) (by decide +kernel)⟩
theorem lw_p39 : lw_okq (⟨"SheetDoctor$Totals", "addWaysOf", "(II)V"⟩, 8) := ⟨⟨by decide +kernel, by decide +kernel⟩, List.mem_of_getElem? (i := 290) (by decide +kernel), List.mem_of_getElem? (i := 910) (by decide +kernel), List.mem_of_getElem? (i := 911) (by decide +kernel)⟩
theorem lw_p40 : lw_okq (⟨"SheetDoctor$Findings", "gatherOf", "(I)V"⟩, 7) := ⟨⟨by decide +kernel, by decide +kernel⟩, List.mem_of_getElem? (i := 321) (by decide +kernel), List.mem_of_getElem? (i := 918) (by decide +kernel), List.mem_of_getElem? (i := 919) (by decide +kernel)⟩
theorem lw_p41 : lw_okq (⟨"SheetDoctor$Families", "isStranger", "(III)Z"⟩, 5) := ⟨⟨by decide +kernel, by decide +kernel⟩, List.mem_of_getElem? (i := 233) (by decide +kernel), List.mem_of_getElem? (i := 927) (by decide +kernel), List.mem_of_getElem? (i := 928) (by decide +kernel)⟩
theorem lw_p42 : lw_okq (⟨"SheetDoctor$Findings", "add", "(III)V"⟩, 7) := ⟨⟨by decide +kernel, by decide +kernel⟩, List.mem_of_getElem? (i := 321) (by decide +kernel), List.mem_of_getElem? (i := 936) (by decide +kernel), List.mem_of_getElem? (i := 937) (by decide +kernel)⟩
theorem lw_p43 : lw_okq (⟨"SheetDoctor$Findings", "gatherShort", "(ILSheetDoctor$Formula;)V"⟩, 7) := ⟨⟨by decide +kernel, by decide +kernel⟩, List.mem_of_getElem? (i := 321) (by decide +kernel), List.mem_of_getElem? (i := 941) (by decide +kernel), List.mem_of_getElem? (i := 942) (by decide +kernel)⟩
theorem lw_p44 : lw_okq (⟨"SheetDoctor$Findings", "goesOn", "(III)Z"⟩, 7) := ⟨⟨by decide +kernel, by decide +kernel⟩, List.mem_of_getElem? (i := 321) (by decide +kernel), List.mem_of_getElem? (i := 954) (by decide +kernel), List.mem_of_getElem? (i := 955) (by decide +kernel)⟩
theorem lw_p45 : lw_okq (⟨"SheetDoctor$Values", "workOut", "(ILSheetDoctor$Formula;)V"⟩, 9) := ⟨⟨by decide +kernel, by decide +kernel⟩, List.mem_of_getElem? (i := 199) (by decide +kernel), List.mem_of_getElem? (i := 1007) (by decide +kernel), List.mem_of_getElem? (i := 1008) (by decide +kernel)⟩
theorem lw_p46 : lw_okq (⟨"SheetDoctor$Values", "push", "(I)V"⟩, 9) := ⟨⟨by decide +kernel, by decide +kernel⟩, List.mem_of_getElem? (i := 199) (by decide +kernel), List.mem_of_getElem? (i := 1018) (by decide +kernel), List.mem_of_getElem? (i := 1019) (by decide +kernel)⟩
theorem lw_p47 : lw_okq (⟨"SheetDoctor$Values", "spanSum", "(ILSheetDoctor$Formula;I)I"⟩, 9) := ⟨⟨by decide +kernel, by decide +kernel⟩, List.mem_of_getElem? (i := 199) (by decide +kernel), List.mem_of_getElem? (i := 1023) (by decide +kernel), List.mem_of_getElem? (i := 1024) (by decide +kernel)⟩
def lw_privs_3 : List (MethodName × Nat) := [(⟨"SheetDoctor$Units", "pushUnitOf", "(I)V"⟩, 9), (⟨"SheetDoctor$Units", "firstFilled", "(ILSheetDoctor$Formula;I)I"⟩, 9), (⟨"SheetDoctor$Units", "areSame", "(II)Z"⟩, 9), (⟨"SheetDoctor$Units", "join", "(I)V"⟩, 9), (⟨"SheetDoctor$Totals", "forgetTwiceOf", "(I)V"⟩, 8), (⟨"SheetDoctor$Totals", "gatherTwiceOf", "(ILSheetDoctor$Formula;)V"⟩, 8), (⟨"SheetDoctor$Totals", "addRead", "(II)V"⟩, 8), (⟨"SheetDoctor$Totals", "addWaysOf", "(II)V"⟩, 8), (⟨"SheetDoctor$Findings", "gatherOf", "(I)V"⟩, 7), (⟨"SheetDoctor$Families", "isStranger", "(III)Z"⟩, 5), (⟨"SheetDoctor$Findings", "add", "(III)V"⟩, 7), (⟨"SheetDoctor$Findings", "gatherShort", "(ILSheetDoctor$Formula;)V"⟩, 7), (⟨"SheetDoctor$Findings", "goesOn", "(III)Z"⟩, 7), (⟨"SheetDoctor$Values", "workOut", "(ILSheetDoctor$Formula;)V"⟩, 9), (⟨"SheetDoctor$Values", "push", "(I)V"⟩, 9), (⟨"SheetDoctor$Values", "spanSum", "(ILSheetDoctor$Formula;I)I"⟩, 9)]
theorem lw_r3 : ∀ q ∈ lw_privs_3, lw_okq q := List.forall_mem_cons.mpr ⟨lw_p32, List.forall_mem_cons.mpr ⟨lw_p33, List.forall_mem_cons.mpr ⟨lw_p34, List.forall_mem_cons.mpr ⟨lw_p35, List.forall_mem_cons.mpr ⟨lw_p36, List.forall_mem_cons.mpr ⟨lw_p37, List.forall_mem_cons.mpr ⟨lw_p38, List.forall_mem_cons.mpr ⟨lw_p39, List.forall_mem_cons.mpr ⟨lw_p40, List.forall_mem_cons.mpr ⟨lw_p41, List.forall_mem_cons.mpr ⟨lw_p42, List.forall_mem_cons.mpr ⟨lw_p43, List.forall_mem_cons.mpr ⟨lw_p44, List.forall_mem_cons.mpr ⟨lw_p45, List.forall_mem_cons.mpr ⟨lw_p46, List.forall_mem_cons.mpr ⟨lw_p47, fun _ h => absurd h List.not_mem_nil⟩⟩⟩⟩⟩⟩⟩⟩⟩⟩⟩⟩⟩⟩⟩⟩
theorem lw_p48 : lw_okq (⟨"SheetDoctor$Values", "pop", "()I"⟩, 9) := ⟨⟨by decide +kernel, by decide +kernel⟩, List.mem_of_getElem? (i := 199) (by decide +kernel), List.mem_of_getElem? (i := 1036) (by decide +kernel), List.mem_of_getElem? (i := 1037) (by decide +kernel)⟩
theorem lw_p49 : lw_okq (⟨"SheetDoctor$Values", "join", "(I)V"⟩, 9) := ⟨⟨by decide +kernel, by decide +kernel⟩, List.mem_of_getElem? (i := 199) (by decide +kernel), List.mem_of_getElem? (i := 1040) (by decide +kernel), List.mem_of_getElem? (i := 1041) (by decide +kernel)⟩
theorem lw_p50 : lw_okq (⟨"SheetDoctor$Values", "quotient", "(II)I"⟩, 9) := ⟨⟨by decide +kernel, by decide +kernel⟩, List.mem_of_getElem? (i := 199) (by decide +kernel), List.mem_of_getElem? (i := 1044) (by decide +kernel), List.mem_of_getElem? (i := 1045) (by decide +kernel)⟩
theorem lw_p51 : lw_okq (⟨"SheetDoctor", "stretchedFormula", "(II)LSheetDoctor$Formula;"⟩, 9) := ⟨⟨by decide +kernel, by decide +kernel⟩, List.mem_of_getElem? (i := 28) (by decide +kernel), List.mem_of_getElem? (i := 1062) (by decide +kernel), List.mem_of_getElem? (i := 1063) (by decide +kernel)⟩
theorem lw_p52 : lw_okq (⟨"SheetDoctor$Totals", "waysThrough", "(IILSheetDoctor$Formula;)I"⟩, 8) := ⟨⟨by decide +kernel, by decide +kernel⟩, List.mem_of_getElem? (i := 290) (by decide +kernel), List.mem_of_getElem? (i := 1104) (by decide +kernel), List.mem_of_getElem? (i := 1105) (by decide +kernel)⟩
theorem lw_p53 : lw_okq (⟨"SheetDoctor$Totals", "waysBy", "(II)I"⟩, 8) := ⟨⟨by decide +kernel, by decide +kernel⟩, List.mem_of_getElem? (i := 290) (by decide +kernel), List.mem_of_getElem? (i := 1108) (by decide +kernel), List.mem_of_getElem? (i := 1109) (by decide +kernel)⟩
theorem lw_p54 : lw_okq (⟨"java/lang/Throwable", "fillInStackTrace", "(I)Ljava/lang/Throwable;"⟩, 6) := ⟨⟨by decide +kernel, by decide +kernel⟩, List.mem_of_getElem? (i := 1169) (by decide +kernel), List.mem_of_getElem? (i := 1167) (by decide +kernel), List.mem_of_getElem? (i := 1168) (by decide +kernel)⟩
theorem lw_p55 : lw_okq (⟨"SheetDoctorModel", "lay", "(J)V"⟩, 43) := ⟨⟨by decide +kernel, by decide +kernel⟩, List.mem_of_getElem? (i := 1222) (by decide +kernel), List.mem_of_getElem? (i := 1220) (by decide +kernel), List.mem_of_getElem? (i := 1221) (by decide +kernel)⟩
theorem lw_p56 : lw_okq (⟨"SheetDoctorModel", "cutAll", "()V"⟩, 43) := ⟨⟨by decide +kernel, by decide +kernel⟩, List.mem_of_getElem? (i := 1222) (by decide +kernel), List.mem_of_getElem? (i := 1369) (by decide +kernel), List.mem_of_getElem? (i := 1370) (by decide +kernel)⟩
theorem lw_p57 : lw_okq (⟨"SheetDoctorModel", "clearDraft", "(II)V"⟩, 43) := ⟨⟨by decide +kernel, by decide +kernel⟩, List.mem_of_getElem? (i := 1222) (by decide +kernel), List.mem_of_getElem? (i := 1386) (by decide +kernel), List.mem_of_getElem? (i := 1387) (by decide +kernel)⟩
theorem lw_p58 : lw_okq (⟨"SheetDoctorModel", "readE", "()V"⟩, 43) := ⟨⟨by decide +kernel, by decide +kernel⟩, List.mem_of_getElem? (i := 1222) (by decide +kernel), List.mem_of_getElem? (i := 1390) (by decide +kernel), List.mem_of_getElem? (i := 1391) (by decide +kernel)⟩
theorem lw_p59 : lw_okq (⟨"SheetDoctorModel", "readProduct", "()V"⟩, 43) := ⟨⟨by decide +kernel, by decide +kernel⟩, List.mem_of_getElem? (i := 1222) (by decide +kernel), List.mem_of_getElem? (i := 1394) (by decide +kernel), List.mem_of_getElem? (i := 1395) (by decide +kernel)⟩
theorem lw_p60 : lw_okq (⟨"SheetDoctorModel", "readPart", "()V"⟩, 43) := ⟨⟨by decide +kernel, by decide +kernel⟩, List.mem_of_getElem? (i := 1222) (by decide +kernel), List.mem_of_getElem? (i := 1398) (by decide +kernel), List.mem_of_getElem? (i := 1399) (by decide +kernel)⟩
theorem lw_p61 : lw_okq (⟨"SheetDoctorModel", "isPart", "()Z"⟩, 43) := ⟨⟨by decide +kernel, by decide +kernel⟩, List.mem_of_getElem? (i := 1222) (by decide +kernel), List.mem_of_getElem? (i := 1402) (by decide +kernel), List.mem_of_getElem? (i := 1403) (by decide +kernel)⟩
theorem lw_p62 : lw_okq (⟨"SheetDoctorModel", "isColumn", "()Z"⟩, 43) := ⟨⟨by decide +kernel, by decide +kernel⟩, List.mem_of_getElem? (i := 1222) (by decide +kernel), List.mem_of_getElem? (i := 1406) (by decide +kernel), List.mem_of_getElem? (i := 1407) (by decide +kernel)⟩
theorem lw_p63 : lw_okq (⟨"SheetDoctorModel", "isSum", "()Z"⟩, 43) := ⟨⟨by decide +kernel, by decide +kernel⟩, List.mem_of_getElem? (i := 1222) (by decide +kernel), List.mem_of_getElem? (i := 1411) (by decide +kernel), List.mem_of_getElem? (i := 1412) (by decide +kernel)⟩
def lw_privs_4 : List (MethodName × Nat) := [(⟨"SheetDoctor$Values", "pop", "()I"⟩, 9), (⟨"SheetDoctor$Values", "join", "(I)V"⟩, 9), (⟨"SheetDoctor$Values", "quotient", "(II)I"⟩, 9), (⟨"SheetDoctor", "stretchedFormula", "(II)LSheetDoctor$Formula;"⟩, 9), (⟨"SheetDoctor$Totals", "waysThrough", "(IILSheetDoctor$Formula;)I"⟩, 8), (⟨"SheetDoctor$Totals", "waysBy", "(II)I"⟩, 8), (⟨"java/lang/Throwable", "fillInStackTrace", "(I)Ljava/lang/Throwable;"⟩, 6), (⟨"SheetDoctorModel", "lay", "(J)V"⟩, 43), (⟨"SheetDoctorModel", "cutAll", "()V"⟩, 43), (⟨"SheetDoctorModel", "clearDraft", "(II)V"⟩, 43), (⟨"SheetDoctorModel", "readE", "()V"⟩, 43), (⟨"SheetDoctorModel", "readProduct", "()V"⟩, 43), (⟨"SheetDoctorModel", "readPart", "()V"⟩, 43), (⟨"SheetDoctorModel", "isPart", "()Z"⟩, 43), (⟨"SheetDoctorModel", "isColumn", "()Z"⟩, 43), (⟨"SheetDoctorModel", "isSum", "()Z"⟩, 43)]
theorem lw_r4 : ∀ q ∈ lw_privs_4, lw_okq q := List.forall_mem_cons.mpr ⟨lw_p48, List.forall_mem_cons.mpr ⟨lw_p49, List.forall_mem_cons.mpr ⟨lw_p50, List.forall_mem_cons.mpr ⟨lw_p51, List.forall_mem_cons.mpr ⟨lw_p52, List.forall_mem_cons.mpr ⟨lw_p53, List.forall_mem_cons.mpr ⟨lw_p54, List.forall_mem_cons.mpr ⟨lw_p55, List.forall_mem_cons.mpr ⟨lw_p56, List.forall_mem_cons.mpr ⟨lw_p57, List.forall_mem_cons.mpr ⟨lw_p58, List.forall_mem_cons.mpr ⟨lw_p59, List.forall_mem_cons.mpr ⟨lw_p60, List.forall_mem_cons.mpr ⟨lw_p61, List.forall_mem_cons.mpr ⟨lw_p62, List.forall_mem_cons.mpr ⟨lw_p63, fun _ h => absurd h List.not_mem_nil⟩⟩⟩⟩⟩⟩⟩⟩⟩⟩⟩⟩⟩⟩⟩⟩
theorem lw_p64 : lw_okq (⟨"SheetDoctorModel", "isSign", "(I)Z"⟩, 43) := ⟨⟨by decide +kernel, by decide +kernel⟩, List.mem_of_getElem? (i := 1222) (by decide +kernel), List.mem_of_getElem? (i := 1416) (by decide +kernel), List.mem_of_getElem? (i := 1417) (by decide +kernel)⟩
theorem lw_p65 : lw_okq (⟨"SheetDoctorModel", "wrong", "(I)V"⟩, 43) := ⟨⟨by decide +kernel, by decide +kernel⟩, List.mem_of_getElem? (i := 1222) (by decide +kernel), List.mem_of_getElem? (i := 1420) (by decide +kernel), List.mem_of_getElem? (i := 1421) (by decide +kernel)⟩
theorem lw_p66 : lw_okq (⟨"SheetDoctorModel", "add", "(IIII)V"⟩, 43) := ⟨⟨by decide +kernel, by decide +kernel⟩, List.mem_of_getElem? (i := 1222) (by decide +kernel), List.mem_of_getElem? (i := 1424) (by decide +kernel), List.mem_of_getElem? (i := 1425) (by decide +kernel)⟩
theorem lw_p67 : lw_okq (⟨"SheetDoctorModel", "takeSign", "(I)V"⟩, 43) := ⟨⟨by decide +kernel, by decide +kernel⟩, List.mem_of_getElem? (i := 1222) (by decide +kernel), List.mem_of_getElem? (i := 1429) (by decide +kernel), List.mem_of_getElem? (i := 1430) (by decide +kernel)⟩
theorem lw_p68 : lw_okq (⟨"SheetDoctorModel", "readRef", "(I)V"⟩, 43) := ⟨⟨by decide +kernel, by decide +kernel⟩, List.mem_of_getElem? (i := 1222) (by decide +kernel), List.mem_of_getElem? (i := 1433) (by decide +kernel), List.mem_of_getElem? (i := 1434) (by decide +kernel)⟩
theorem lw_p69 : lw_okq (⟨"SheetDoctorModel", "hasSign", "(I)Z"⟩, 43) := ⟨⟨by decide +kernel, by decide +kernel⟩, List.mem_of_getElem? (i := 1222) (by decide +kernel), List.mem_of_getElem? (i := 1437) (by decide +kernel), List.mem_of_getElem? (i := 1438) (by decide +kernel)⟩
theorem lw_p70 : lw_okq (⟨"SheetDoctorModel", "puts", "(I)V"⟩, 43) := ⟨⟨by decide +kernel, by decide +kernel⟩, List.mem_of_getElem? (i := 1222) (by decide +kernel), List.mem_of_getElem? (i := 1442) (by decide +kernel), List.mem_of_getElem? (i := 1443) (by decide +kernel)⟩
theorem lw_p71 : lw_okq (⟨"SheetDoctorModel", "copyRow", "(II)V"⟩, 43) := ⟨⟨by decide +kernel, by decide +kernel⟩, List.mem_of_getElem? (i := 1222) (by decide +kernel), List.mem_of_getElem? (i := 1446) (by decide +kernel), List.mem_of_getElem? (i := 1447) (by decide +kernel)⟩
theorem lw_p72 : lw_okq (⟨"SheetDoctorModel", "works", "()V"⟩, 43) := ⟨⟨by decide +kernel, by decide +kernel⟩, List.mem_of_getElem? (i := 1222) (by decide +kernel), List.mem_of_getElem? (i := 1450) (by decide +kernel), List.mem_of_getElem? (i := 1451) (by decide +kernel)⟩
theorem lw_p73 : lw_okq (⟨"SheetDoctorModel", "findReads", "()V"⟩, 43) := ⟨⟨by decide +kernel, by decide +kernel⟩, List.mem_of_getElem? (i := 1222) (by decide +kernel), List.mem_of_getElem? (i := 1454) (by decide +kernel), List.mem_of_getElem? (i := 1455) (by decide +kernel)⟩
theorem lw_p74 : lw_okq (⟨"SheetDoctorModel", "spanLast", "(II)I"⟩, 43) := ⟨⟨by decide +kernel, by decide +kernel⟩, List.mem_of_getElem? (i := 1222) (by decide +kernel), List.mem_of_getElem? (i := 1458) (by decide +kernel), List.mem_of_getElem? (i := 1459) (by decide +kernel)⟩
theorem lw_p75 : lw_okq (⟨"SheetDoctorModel", "isRing", "(I)Z"⟩, 43) := ⟨⟨by decide +kernel, by decide +kernel⟩, List.mem_of_getElem? (i := 1222) (by decide +kernel), List.mem_of_getElem? (i := 1468) (by decide +kernel), List.mem_of_getElem? (i := 1469) (by decide +kernel)⟩
theorem lw_p76 : lw_okq (⟨"SheetDoctorModel", "isReady", "(I)Z"⟩, 43) := ⟨⟨by decide +kernel, by decide +kernel⟩, List.mem_of_getElem? (i := 1222) (by decide +kernel), List.mem_of_getElem? (i := 1472) (by decide +kernel), List.mem_of_getElem? (i := 1473) (by decide +kernel)⟩
theorem lw_p77 : lw_okq (⟨"SheetDoctorModel", "work", "(I)V"⟩, 43) := ⟨⟨by decide +kernel, by decide +kernel⟩, List.mem_of_getElem? (i := 1222) (by decide +kernel), List.mem_of_getElem? (i := 1476) (by decide +kernel), List.mem_of_getElem? (i := 1477) (by decide +kernel)⟩
theorem lw_p78 : lw_okq (⟨"SheetDoctorModel", "goE", "()I"⟩, 43) := ⟨⟨by decide +kernel, by decide +kernel⟩, List.mem_of_getElem? (i := 1222) (by decide +kernel), List.mem_of_getElem? (i := 1480) (by decide +kernel), List.mem_of_getElem? (i := 1481) (by decide +kernel)⟩
theorem lw_p79 : lw_okq (⟨"SheetDoctorModel", "goProduct", "()I"⟩, 43) := ⟨⟨by decide +kernel, by decide +kernel⟩, List.mem_of_getElem? (i := 1222) (by decide +kernel), List.mem_of_getElem? (i := 1484) (by decide +kernel), List.mem_of_getElem? (i := 1485) (by decide +kernel)⟩
def lw_privs_5 : List (MethodName × Nat) := [(⟨"SheetDoctorModel", "isSign", "(I)Z"⟩, 43), (⟨"SheetDoctorModel", "wrong", "(I)V"⟩, 43), (⟨"SheetDoctorModel", "add", "(IIII)V"⟩, 43), (⟨"SheetDoctorModel", "takeSign", "(I)V"⟩, 43), (⟨"SheetDoctorModel", "readRef", "(I)V"⟩, 43), (⟨"SheetDoctorModel", "hasSign", "(I)Z"⟩, 43), (⟨"SheetDoctorModel", "puts", "(I)V"⟩, 43), (⟨"SheetDoctorModel", "copyRow", "(II)V"⟩, 43), (⟨"SheetDoctorModel", "works", "()V"⟩, 43), (⟨"SheetDoctorModel", "findReads", "()V"⟩, 43), (⟨"SheetDoctorModel", "spanLast", "(II)I"⟩, 43), (⟨"SheetDoctorModel", "isRing", "(I)Z"⟩, 43), (⟨"SheetDoctorModel", "isReady", "(I)Z"⟩, 43), (⟨"SheetDoctorModel", "work", "(I)V"⟩, 43), (⟨"SheetDoctorModel", "goE", "()I"⟩, 43), (⟨"SheetDoctorModel", "goProduct", "()I"⟩, 43)]
theorem lw_r5 : ∀ q ∈ lw_privs_5, lw_okq q := List.forall_mem_cons.mpr ⟨lw_p64, List.forall_mem_cons.mpr ⟨lw_p65, List.forall_mem_cons.mpr ⟨lw_p66, List.forall_mem_cons.mpr ⟨lw_p67, List.forall_mem_cons.mpr ⟨lw_p68, List.forall_mem_cons.mpr ⟨lw_p69, List.forall_mem_cons.mpr ⟨lw_p70, List.forall_mem_cons.mpr ⟨lw_p71, List.forall_mem_cons.mpr ⟨lw_p72, List.forall_mem_cons.mpr ⟨lw_p73, List.forall_mem_cons.mpr ⟨lw_p74, List.forall_mem_cons.mpr ⟨lw_p75, List.forall_mem_cons.mpr ⟨lw_p76, List.forall_mem_cons.mpr ⟨lw_p77, List.forall_mem_cons.mpr ⟨lw_p78, List.forall_mem_cons.mpr ⟨lw_p79, fun _ h => absurd h List.not_mem_nil⟩⟩⟩⟩⟩⟩⟩⟩⟩⟩⟩⟩⟩⟩⟩⟩
theorem lw_p80 : lw_okq (⟨"SheetDoctorModel", "goPart", "()I"⟩, 43) := ⟨⟨by decide +kernel, by decide +kernel⟩, List.mem_of_getElem? (i := 1222) (by decide +kernel), List.mem_of_getElem? (i := 1488) (by decide +kernel), List.mem_of_getElem? (i := 1489) (by decide +kernel)⟩
theorem lw_p81 : lw_okq (⟨"SheetDoctorModel", "meets", "(I)I"⟩, 43) := ⟨⟨by decide +kernel, by decide +kernel⟩, List.mem_of_getElem? (i := 1222) (by decide +kernel), List.mem_of_getElem? (i := 1492) (by decide +kernel), List.mem_of_getElem? (i := 1493) (by decide +kernel)⟩
theorem lw_p82 : lw_okq (⟨"SheetDoctorModel", "sumOf", "(II)I"⟩, 43) := ⟨⟨by decide +kernel, by decide +kernel⟩, List.mem_of_getElem? (i := 1222) (by decide +kernel), List.mem_of_getElem? (i := 1496) (by decide +kernel), List.mem_of_getElem? (i := 1497) (by decide +kernel)⟩
theorem lw_p83 : lw_okq (⟨"SheetDoctorModel", "isNext", "(I)Z"⟩, 43) := ⟨⟨by decide +kernel, by decide +kernel⟩, List.mem_of_getElem? (i := 1222) (by decide +kernel), List.mem_of_getElem? (i := 1500) (by decide +kernel), List.mem_of_getElem? (i := 1501) (by decide +kernel)⟩
theorem lw_p84 : lw_okq (⟨"SheetDoctorModel", "unitE", "()V"⟩, 43) := ⟨⟨by decide +kernel, by decide +kernel⟩, List.mem_of_getElem? (i := 1222) (by decide +kernel), List.mem_of_getElem? (i := 1504) (by decide +kernel), List.mem_of_getElem? (i := 1505) (by decide +kernel)⟩
theorem lw_p85 : lw_okq (⟨"SheetDoctorModel", "unitProduct", "()V"⟩, 43) := ⟨⟨by decide +kernel, by decide +kernel⟩, List.mem_of_getElem? (i := 1222) (by decide +kernel), List.mem_of_getElem? (i := 1508) (by decide +kernel), List.mem_of_getElem? (i := 1509) (by decide +kernel)⟩
theorem lw_p86 : lw_okq (⟨"SheetDoctorModel", "unitPart", "()V"⟩, 43) := ⟨⟨by decide +kernel, by decide +kernel⟩, List.mem_of_getElem? (i := 1222) (by decide +kernel), List.mem_of_getElem? (i := 1512) (by decide +kernel), List.mem_of_getElem? (i := 1513) (by decide +kernel)⟩
theorem lw_p87 : lw_okq (⟨"SheetDoctorModel", "pushUnit", "(III)V"⟩, 43) := ⟨⟨by decide +kernel, by decide +kernel⟩, List.mem_of_getElem? (i := 1222) (by decide +kernel), List.mem_of_getElem? (i := 1516) (by decide +kernel), List.mem_of_getElem? (i := 1517) (by decide +kernel)⟩
theorem lw_p88 : lw_okq (⟨"SheetDoctorModel", "pushUnitOf", "(I)V"⟩, 43) := ⟨⟨by decide +kernel, by decide +kernel⟩, List.mem_of_getElem? (i := 1222) (by decide +kernel), List.mem_of_getElem? (i := 1520) (by decide +kernel), List.mem_of_getElem? (i := 1521) (by decide +kernel)⟩
theorem lw_p89 : lw_okq (⟨"SheetDoctorModel", "unitSum", "(II)V"⟩, 43) := ⟨⟨by decide +kernel, by decide +kernel⟩, List.mem_of_getElem? (i := 1222) (by decide +kernel), List.mem_of_getElem? (i := 1524) (by decide +kernel), List.mem_of_getElem? (i := 1525) (by decide +kernel)⟩
theorem lw_p90 : lw_okq (⟨"SheetDoctorModel", "isUnitSame", "(II)Z"⟩, 43) := ⟨⟨by decide +kernel, by decide +kernel⟩, List.mem_of_getElem? (i := 1222) (by decide +kernel), List.mem_of_getElem? (i := 1528) (by decide +kernel), List.mem_of_getElem? (i := 1529) (by decide +kernel)⟩
theorem lw_p91 : lw_okq (⟨"SheetDoctorModel", "looksTotal", "(I)Z"⟩, 43) := ⟨⟨by decide +kernel, by decide +kernel⟩, List.mem_of_getElem? (i := 1222) (by decide +kernel), List.mem_of_getElem? (i := 1532) (by decide +kernel), List.mem_of_getElem? (i := 1533) (by decide +kernel)⟩
theorem lw_p92 : lw_okq (⟨"SheetDoctorModel", "countWays", "(I)V"⟩, 43) := ⟨⟨by decide +kernel, by decide +kernel⟩, List.mem_of_getElem? (i := 1222) (by decide +kernel), List.mem_of_getElem? (i := 1536) (by decide +kernel), List.mem_of_getElem? (i := 1537) (by decide +kernel)⟩
theorem lw_p93 : lw_okq (⟨"SheetDoctorModel", "addWays", "(II)V"⟩, 43) := ⟨⟨by decide +kernel, by decide +kernel⟩, List.mem_of_getElem? (i := 1222) (by decide +kernel), List.mem_of_getElem? (i := 1540) (by decide +kernel), List.mem_of_getElem? (i := 1541) (by decide +kernel)⟩
theorem lw_p94 : lw_okq (⟨"SheetDoctorModel", "addWay", "(III)V"⟩, 43) := ⟨⟨by decide +kernel, by decide +kernel⟩, List.mem_of_getElem? (i := 1222) (by decide +kernel), List.mem_of_getElem? (i := 1544) (by decide +kernel), List.mem_of_getElem? (i := 1545) (by decide +kernel)⟩
theorem lw_p95 : lw_okq (⟨"SheetDoctorModel", "findFamilies", "()V"⟩, 43) := ⟨⟨by decide +kernel, by decide +kernel⟩, List.mem_of_getElem? (i := 1222) (by decide +kernel), List.mem_of_getElem? (i := 1548) (by decide +kernel), List.mem_of_getElem? (i := 1549) (by decide +kernel)⟩
def lw_privs_6 : List (MethodName × Nat) := [(⟨"SheetDoctorModel", "goPart", "()I"⟩, 43), (⟨"SheetDoctorModel", "meets", "(I)I"⟩, 43), (⟨"SheetDoctorModel", "sumOf", "(II)I"⟩, 43), (⟨"SheetDoctorModel", "isNext", "(I)Z"⟩, 43), (⟨"SheetDoctorModel", "unitE", "()V"⟩, 43), (⟨"SheetDoctorModel", "unitProduct", "()V"⟩, 43), (⟨"SheetDoctorModel", "unitPart", "()V"⟩, 43), (⟨"SheetDoctorModel", "pushUnit", "(III)V"⟩, 43), (⟨"SheetDoctorModel", "pushUnitOf", "(I)V"⟩, 43), (⟨"SheetDoctorModel", "unitSum", "(II)V"⟩, 43), (⟨"SheetDoctorModel", "isUnitSame", "(II)Z"⟩, 43), (⟨"SheetDoctorModel", "looksTotal", "(I)Z"⟩, 43), (⟨"SheetDoctorModel", "countWays", "(I)V"⟩, 43), (⟨"SheetDoctorModel", "addWays", "(II)V"⟩, 43), (⟨"SheetDoctorModel", "addWay", "(III)V"⟩, 43), (⟨"SheetDoctorModel", "findFamilies", "()V"⟩, 43)]
theorem lw_r6 : ∀ q ∈ lw_privs_6, lw_okq q := List.forall_mem_cons.mpr ⟨lw_p80, List.forall_mem_cons.mpr ⟨lw_p81, List.forall_mem_cons.mpr ⟨lw_p82, List.forall_mem_cons.mpr ⟨lw_p83, List.forall_mem_cons.mpr ⟨lw_p84, List.forall_mem_cons.mpr ⟨lw_p85, List.forall_mem_cons.mpr ⟨lw_p86, List.forall_mem_cons.mpr ⟨lw_p87, List.forall_mem_cons.mpr ⟨lw_p88, List.forall_mem_cons.mpr ⟨lw_p89, List.forall_mem_cons.mpr ⟨lw_p90, List.forall_mem_cons.mpr ⟨lw_p91, List.forall_mem_cons.mpr ⟨lw_p92, List.forall_mem_cons.mpr ⟨lw_p93, List.forall_mem_cons.mpr ⟨lw_p94, List.forall_mem_cons.mpr ⟨lw_p95, fun _ h => absurd h List.not_mem_nil⟩⟩⟩⟩⟩⟩⟩⟩⟩⟩⟩⟩⟩⟩⟩⟩
theorem lw_p96 : lw_okq (⟨"SheetDoctorModel", "isAlike", "(II)Z"⟩, 43) := ⟨⟨by decide +kernel, by decide +kernel⟩, List.mem_of_getElem? (i := 1222) (by decide +kernel), List.mem_of_getElem? (i := 1552) (by decide +kernel), List.mem_of_getElem? (i := 1553) (by decide +kernel)⟩
theorem lw_p97 : lw_okq (⟨"SheetDoctorModel", "makesCopy", "(II)Z"⟩, 43) := ⟨⟨by decide +kernel, by decide +kernel⟩, List.mem_of_getElem? (i := 1222) (by decide +kernel), List.mem_of_getElem? (i := 1568) (by decide +kernel), List.mem_of_getElem? (i := 1569) (by decide +kernel)⟩
theorem lw_p98 : lw_okq (⟨"SheetDoctorModel", "oddBy", "(I)I"⟩, 43) := ⟨⟨by decide +kernel, by decide +kernel⟩, List.mem_of_getElem? (i := 1222) (by decide +kernel), List.mem_of_getElem? (i := 1584) (by decide +kernel), List.mem_of_getElem? (i := 1585) (by decide +kernel)⟩
theorem lw_p99 : lw_okq (⟨"SheetDoctorModel", "familyAt", "(II)I"⟩, 43) := ⟨⟨by decide +kernel, by decide +kernel⟩, List.mem_of_getElem? (i := 1222) (by decide +kernel), List.mem_of_getElem? (i := 1588) (by decide +kernel), List.mem_of_getElem? (i := 1589) (by decide +kernel)⟩
theorem lw_p100 : lw_okq (⟨"SheetDoctorModel", "finds", "(III)V"⟩, 43) := ⟨⟨by decide +kernel, by decide +kernel⟩, List.mem_of_getElem? (i := 1222) (by decide +kernel), List.mem_of_getElem? (i := 1592) (by decide +kernel), List.mem_of_getElem? (i := 1593) (by decide +kernel)⟩
theorem lw_p101 : lw_okq (⟨"SheetDoctorModel", "findShort", "(I)V"⟩, 43) := ⟨⟨by decide +kernel, by decide +kernel⟩, List.mem_of_getElem? (i := 1222) (by decide +kernel), List.mem_of_getElem? (i := 1596) (by decide +kernel), List.mem_of_getElem? (i := 1597) (by decide +kernel)⟩
theorem lw_p102 : lw_okq (⟨"SheetDoctorModel", "shortBy", "(IIZ)I"⟩, 43) := ⟨⟨by decide +kernel, by decide +kernel⟩, List.mem_of_getElem? (i := 1222) (by decide +kernel), List.mem_of_getElem? (i := 1600) (by decide +kernel), List.mem_of_getElem? (i := 1601) (by decide +kernel)⟩
theorem lw_p103 : lw_okq (⟨"SheetDoctorModel", "leastTwice", "(I)I"⟩, 43) := ⟨⟨by decide +kernel, by decide +kernel⟩, List.mem_of_getElem? (i := 1222) (by decide +kernel), List.mem_of_getElem? (i := 1604) (by decide +kernel), List.mem_of_getElem? (i := 1605) (by decide +kernel)⟩
theorem lw_p104 : lw_okq (⟨"SheetDoctorModel", "readers", "(I)I"⟩, 43) := ⟨⟨by decide +kernel, by decide +kernel⟩, List.mem_of_getElem? (i := 1222) (by decide +kernel), List.mem_of_getElem? (i := 1608) (by decide +kernel), List.mem_of_getElem? (i := 1609) (by decide +kernel)⟩
theorem lw_p105 : lw_okq (⟨"SheetDoctorModel", "remembers", "()V"⟩, 43) := ⟨⟨by decide +kernel, by decide +kernel⟩, List.mem_of_getElem? (i := 1222) (by decide +kernel), List.mem_of_getElem? (i := 1620) (by decide +kernel), List.mem_of_getElem? (i := 1621) (by decide +kernel)⟩
theorem lw_p106 : lw_okq (⟨"SheetDoctorModel", "tells", "()I"⟩, 43) := ⟨⟨by decide +kernel, by decide +kernel⟩, List.mem_of_getElem? (i := 1222) (by decide +kernel), List.mem_of_getElem? (i := 1624) (by decide +kernel), List.mem_of_getElem? (i := 1625) (by decide +kernel)⟩
theorem lw_p107 : lw_okq (⟨"SheetDoctorModel", "sumAt", "(II)I"⟩, 43) := ⟨⟨by decide +kernel, by decide +kernel⟩, List.mem_of_getElem? (i := 1222) (by decide +kernel), List.mem_of_getElem? (i := 1632) (by decide +kernel), List.mem_of_getElem? (i := 1633) (by decide +kernel)⟩
theorem lw_p108 : lw_okq (⟨"SheetDoctorModel", "readMany", "(I)I"⟩, 43) := ⟨⟨by decide +kernel, by decide +kernel⟩, List.mem_of_getElem? (i := 1222) (by decide +kernel), List.mem_of_getElem? (i := 1648) (by decide +kernel), List.mem_of_getElem? (i := 1649) (by decide +kernel)⟩
def lw_privs_7 : List (MethodName × Nat) := [(⟨"SheetDoctorModel", "isAlike", "(II)Z"⟩, 43), (⟨"SheetDoctorModel", "makesCopy", "(II)Z"⟩, 43), (⟨"SheetDoctorModel", "oddBy", "(I)I"⟩, 43), (⟨"SheetDoctorModel", "familyAt", "(II)I"⟩, 43), (⟨"SheetDoctorModel", "finds", "(III)V"⟩, 43), (⟨"SheetDoctorModel", "findShort", "(I)V"⟩, 43), (⟨"SheetDoctorModel", "shortBy", "(IIZ)I"⟩, 43), (⟨"SheetDoctorModel", "leastTwice", "(I)I"⟩, 43), (⟨"SheetDoctorModel", "readers", "(I)I"⟩, 43), (⟨"SheetDoctorModel", "remembers", "()V"⟩, 43), (⟨"SheetDoctorModel", "tells", "()I"⟩, 43), (⟨"SheetDoctorModel", "sumAt", "(II)I"⟩, 43), (⟨"SheetDoctorModel", "readMany", "(I)I"⟩, 43)]
theorem lw_r7 : ∀ q ∈ lw_privs_7, lw_okq q := List.forall_mem_cons.mpr ⟨lw_p96, List.forall_mem_cons.mpr ⟨lw_p97, List.forall_mem_cons.mpr ⟨lw_p98, List.forall_mem_cons.mpr ⟨lw_p99, List.forall_mem_cons.mpr ⟨lw_p100, List.forall_mem_cons.mpr ⟨lw_p101, List.forall_mem_cons.mpr ⟨lw_p102, List.forall_mem_cons.mpr ⟨lw_p103, List.forall_mem_cons.mpr ⟨lw_p104, List.forall_mem_cons.mpr ⟨lw_p105, List.forall_mem_cons.mpr ⟨lw_p106, List.forall_mem_cons.mpr ⟨lw_p107, List.forall_mem_cons.mpr ⟨lw_p108, fun _ h => absurd h List.not_mem_nil⟩⟩⟩⟩⟩⟩⟩⟩⟩⟩⟩⟩⟩
def lw_privs : List (MethodName × Nat) := lw_privs_1 ++ (lw_privs_2 ++ (lw_privs_3 ++ (lw_privs_4 ++ (lw_privs_5 ++ (lw_privs_6 ++ (lw_privs_7))))))
def lw_tbl : List Cond := k2_sels lw_privs ++ tables_1
theorem lw_privs_ok : ∀ q ∈ lw_privs, lw_okq q := by
  show ∀ q ∈ lw_privs_1 ++ (lw_privs_2 ++ (lw_privs_3 ++ (lw_privs_4 ++ (lw_privs_5 ++ (lw_privs_6 ++ (lw_privs_7)))))), lw_okq q
  exact List.forall_mem_append.mpr ⟨lw_r1, List.forall_mem_append.mpr ⟨lw_r2, List.forall_mem_append.mpr ⟨lw_r3, List.forall_mem_append.mpr ⟨lw_r4, List.forall_mem_append.mpr ⟨lw_r5, List.forall_mem_append.mpr ⟨lw_r6, lw_r7⟩⟩⟩⟩⟩⟩
end
section
def RX0 : String := "SheetDoctor$Cell"
def TX0 : u_T := fun k => match k with
  | 0 => ("SheetDoctor$Cell", "kind", "I", true)
  | 1 => ("SheetDoctor$Cell", "number", "I", true)
  | 2 => ("SheetDoctor$Cell", "formula", "LSheetDoctor$Formula;", true)
  | 3 => ("SheetDoctor$Cell", "unitA", "I", true)
  | 4 => ("SheetDoctor$Cell", "unitB", "I", true)
  | _ => ("SheetDoctor$Cell", "unitC", "I", true)
def tyX0 : Nat → FieldType := fun k => match k with
  | 0 => .int
  | 1 => .int
  | 2 => .object "SheetDoctor$Formula"
  | 3 => .int
  | 4 => .int
  | _ => .int
theorem nmX0 : ∀ a, a < 6 → ∀ b, b < 6 → a ≠ b → (TX0 a).2.1 ≠ (TX0 b).2.1 := by decide +kernel
theorem tyX0_ok : ∀ k, k < 6 → parseFieldDescriptor (TX0 k).2.2.1 = some (tyX0 k) := by decide +kernel
def RX1 : String := "SheetDoctor$Changes"
def TX1 : u_T := fun k => match k with
  | 0 => ("SheetDoctor$Changes", "values", "LSheetDoctor$Values;", true)
  | 1 => ("SheetDoctor$Changes", "oldValue", "[I", true)
  | 2 => ("SheetDoctor$Changes", "oldError", "[I", true)
  | 3 => ("SheetDoctor$Changes", "told", "[I", true)
  | _ => ("SheetDoctor$Changes", "size", "I", false)
def tyX1 : Nat → FieldType := fun k => match k with
  | 0 => .object "SheetDoctor$Values"
  | 1 => .array .int
  | 2 => .array .int
  | 3 => .array .int
  | _ => .int
theorem nmX1 : ∀ a, a < 5 → ∀ b, b < 5 → a ≠ b → (TX1 a).2.1 ≠ (TX1 b).2.1 := by decide +kernel
theorem tyX1_ok : ∀ k, k < 5 → parseFieldDescriptor (TX1 k).2.2.1 = some (tyX1 k) := by decide +kernel
def RX2 : String := "SheetDoctor$Families"
def TX2 : u_T := fun k => match k with
  | 0 => ("SheetDoctor$Families", "sheet", "LSheetDoctor$Sheet;", true)
  | 1 => ("SheetDoctor$Families", "family", "[I", true)
  | 2 => ("SheetDoctor$Families", "eldest", "[I", true)
  | 3 => ("SheetDoctor$Families", "size", "I", false)
  | _ => ("SheetDoctor$Families", "version", "I", false)
def tyX2 : Nat → FieldType := fun k => match k with
  | 0 => .object "SheetDoctor$Sheet"
  | 1 => .array .int
  | 2 => .array .int
  | 3 => .int
  | _ => .int
theorem nmX2 : ∀ a, a < 5 → ∀ b, b < 5 → a ≠ b → (TX2 a).2.1 ≠ (TX2 b).2.1 := by decide +kernel
theorem tyX2_ok : ∀ k, k < 5 → parseFieldDescriptor (TX2 k).2.2.1 = some (tyX2 k) := by decide +kernel
def RX3 : String := "SheetDoctor$Findings"
def TX3 : u_T := fun k => match k with
  | 0 => ("SheetDoctor$Findings", "sheet", "LSheetDoctor$Sheet;", true)
  | 1 => ("SheetDoctor$Findings", "links", "LSheetDoctor$Links;", true)
  | 2 => ("SheetDoctor$Findings", "families", "LSheetDoctor$Families;", true)
  | 3 => ("SheetDoctor$Findings", "units", "LSheetDoctor$Units;", true)
  | 4 => ("SheetDoctor$Findings", "totals", "LSheetDoctor$Totals;", true)
  | 5 => ("SheetDoctor$Findings", "told", "[I", true)
  | _ => ("SheetDoctor$Findings", "size", "I", false)
def tyX3 : Nat → FieldType := fun k => match k with
  | 0 => .object "SheetDoctor$Sheet"
  | 1 => .object "SheetDoctor$Links"
  | 2 => .object "SheetDoctor$Families"
  | 3 => .object "SheetDoctor$Units"
  | 4 => .object "SheetDoctor$Totals"
  | 5 => .array .int
  | _ => .int
theorem nmX3 : ∀ a, a < 7 → ∀ b, b < 7 → a ≠ b → (TX3 a).2.1 ≠ (TX3 b).2.1 := by decide +kernel
theorem tyX3_ok : ∀ k, k < 7 → parseFieldDescriptor (TX3 k).2.2.1 = some (tyX3 k) := by decide +kernel
def RX4 : String := "SheetDoctor$Formula"
def TX4 : u_T := fun k => match k with
  | 0 => ("SheetDoctor$Formula", "steps", "[I", true)
  | 1 => ("SheetDoctor$Formula", "first", "[I", true)
  | _ => ("SheetDoctor$Formula", "last", "[I", true)
def tyX4 : Nat → FieldType := fun k => match k with
  | 0 => .array .int
  | 1 => .array .int
  | _ => .array .int
theorem nmX4 : ∀ a, a < 3 → ∀ b, b < 3 → a ≠ b → (TX4 a).2.1 ≠ (TX4 b).2.1 := by decide +kernel
theorem tyX4_ok : ∀ k, k < 3 → parseFieldDescriptor (TX4 k).2.2.1 = some (tyX4 k) := by decide +kernel
def RX5 : String := "SheetDoctor$Links"
def TX5 : u_T := fun k => match k with
  | 0 => ("SheetDoctor$Links", "sheet", "LSheetDoctor$Sheet;", true)
  | 1 => ("SheetDoctor$Links", "formulas", "[I", true)
  | 2 => ("SheetDoctor$Links", "formulaCount", "I", false)
  | 3 => ("SheetDoctor$Links", "formulaSet", "[J", true)
  | 4 => ("SheetDoctor$Links", "reads", "[J", true)
  | 5 => ("SheetDoctor$Links", "reach", "[J", true)
  | 6 => ("SheetDoctor$Links", "ring", "[Z", true)
  | 7 => ("SheetDoctor$Links", "waiting", "[I", true)
  | 8 => ("SheetDoctor$Links", "order", "[I", true)
  | 9 => ("SheetDoctor$Links", "ordered", "I", false)
  | 10 => ("SheetDoctor$Links", "span", "[I", true)
  | _ => ("SheetDoctor$Links", "version", "I", false)
def tyX5 : Nat → FieldType := fun k => match k with
  | 0 => .object "SheetDoctor$Sheet"
  | 1 => .array .int
  | 2 => .int
  | 3 => .array .long
  | 4 => .array .long
  | 5 => .array .long
  | 6 => .array .boolean
  | 7 => .array .int
  | 8 => .array .int
  | 9 => .int
  | 10 => .array .int
  | _ => .int
theorem nmX5 : ∀ a, a < 12 → ∀ b, b < 12 → a ≠ b → (TX5 a).2.1 ≠ (TX5 b).2.1 := by decide +kernel
theorem tyX5_ok : ∀ k, k < 12 → parseFieldDescriptor (TX5 k).2.2.1 = some (tyX5 k) := by decide +kernel
def RX6 : String := "SheetDoctor$Sheet"
def TX6 : u_T := fun k => match k with
  | 0 => ("SheetDoctor$Sheet", "blank", "LSheetDoctor$Cell;", true)
  | 1 => ("SheetDoctor$Sheet", "cells", "[LSheetDoctor$Cell;", true)
  | 2 => ("SheetDoctor$Sheet", "kept", "[Z", true)
  | 3 => ("SheetDoctor$Sheet", "pastPlaces", "[I", true)
  | 4 => ("SheetDoctor$Sheet", "pastCells", "[LSheetDoctor$Cell;", true)
  | 5 => ("SheetDoctor$Sheet", "depth", "I", false)
  | _ => ("SheetDoctor$Sheet", "version", "I", false)
def tyX6 : Nat → FieldType := fun k => match k with
  | 0 => .object "SheetDoctor$Cell"
  | 1 => .array (.object "SheetDoctor$Cell")
  | 2 => .array .boolean
  | 3 => .array .int
  | 4 => .array (.object "SheetDoctor$Cell")
  | 5 => .int
  | _ => .int
theorem nmX6 : ∀ a, a < 7 → ∀ b, b < 7 → a ≠ b → (TX6 a).2.1 ≠ (TX6 b).2.1 := by decide +kernel
theorem tyX6_ok : ∀ k, k < 7 → parseFieldDescriptor (TX6 k).2.2.1 = some (tyX6 k) := by decide +kernel
def RX7 : String := "SheetDoctor$Tape"
def TX7 : u_T := fun k => match k with
  | 0 => ("SheetDoctor$Tape", "text", "[C", true)
  | 1 => ("SheetDoctor$Tape", "length", "I", false)
  | 2 => ("SheetDoctor$Tape", "home", "I", false)
  | 3 => ("SheetDoctor$Tape", "kinds", "[I", true)
  | 4 => ("SheetDoctor$Tape", "amounts", "[I", true)
  | 5 => ("SheetDoctor$Tape", "starts", "[I", true)
  | 6 => ("SheetDoctor$Tape", "tokens", "I", false)
  | 7 => ("SheetDoctor$Tape", "token", "I", false)
  | 8 => ("SheetDoctor$Tape", "fault", "I", false)
  | 9 => ("SheetDoctor$Tape", "steps", "[I", true)
  | 10 => ("SheetDoctor$Tape", "first", "[I", true)
  | 11 => ("SheetDoctor$Tape", "last", "[I", true)
  | _ => ("SheetDoctor$Tape", "size", "I", false)
def tyX7 : Nat → FieldType := fun k => match k with
  | 0 => .array .char
  | 1 => .int
  | 2 => .int
  | 3 => .array .int
  | 4 => .array .int
  | 5 => .array .int
  | 6 => .int
  | 7 => .int
  | 8 => .int
  | 9 => .array .int
  | 10 => .array .int
  | 11 => .array .int
  | _ => .int
theorem nmX7 : ∀ a, a < 13 → ∀ b, b < 13 → a ≠ b → (TX7 a).2.1 ≠ (TX7 b).2.1 := by decide +kernel
theorem tyX7_ok : ∀ k, k < 13 → parseFieldDescriptor (TX7 k).2.2.1 = some (tyX7 k) := by decide +kernel
def RX8 : String := "SheetDoctor$Totals"
def TX8 : u_T := fun k => match k with
  | 0 => ("SheetDoctor$Totals", "sheet", "LSheetDoctor$Sheet;", true)
  | 1 => ("SheetDoctor$Totals", "links", "LSheetDoctor$Links;", true)
  | 2 => ("SheetDoctor$Totals", "total", "[Z", true)
  | 3 => ("SheetDoctor$Totals", "found", "[I", true)
  | 4 => ("SheetDoctor$Totals", "span", "[I", true)
  | 5 => ("SheetDoctor$Totals", "once", "[J", true)
  | 6 => ("SheetDoctor$Totals", "twice", "[J", true)
  | _ => ("SheetDoctor$Totals", "version", "I", false)
def tyX8 : Nat → FieldType := fun k => match k with
  | 0 => .object "SheetDoctor$Sheet"
  | 1 => .object "SheetDoctor$Links"
  | 2 => .array .boolean
  | 3 => .array .int
  | 4 => .array .int
  | 5 => .array .long
  | 6 => .array .long
  | _ => .int
theorem nmX8 : ∀ a, a < 8 → ∀ b, b < 8 → a ≠ b → (TX8 a).2.1 ≠ (TX8 b).2.1 := by decide +kernel
theorem tyX8_ok : ∀ k, k < 8 → parseFieldDescriptor (TX8 k).2.2.1 = some (tyX8 k) := by decide +kernel
def RX9 : String := "SheetDoctor$Units"
def TX9 : u_T := fun k => match k with
  | 0 => ("SheetDoctor$Units", "sheet", "LSheetDoctor$Sheet;", true)
  | 1 => ("SheetDoctor$Units", "links", "LSheetDoctor$Links;", true)
  | 2 => ("SheetDoctor$Units", "exponents", "[I", true)
  | 3 => ("SheetDoctor$Units", "clash", "[Z", true)
  | 4 => ("SheetDoctor$Units", "span", "[I", true)
  | 5 => ("SheetDoctor$Units", "open", "[I", true)
  | 6 => ("SheetDoctor$Units", "openCount", "I", false)
  | 7 => ("SheetDoctor$Units", "clashing", "Z", false)
  | _ => ("SheetDoctor$Units", "version", "I", false)
def tyX9 : Nat → FieldType := fun k => match k with
  | 0 => .object "SheetDoctor$Sheet"
  | 1 => .object "SheetDoctor$Links"
  | 2 => .array .int
  | 3 => .array .boolean
  | 4 => .array .int
  | 5 => .array .int
  | 6 => .int
  | 7 => .boolean
  | _ => .int
theorem nmX9 : ∀ a, a < 9 → ∀ b, b < 9 → a ≠ b → (TX9 a).2.1 ≠ (TX9 b).2.1 := by decide +kernel
theorem tyX9_ok : ∀ k, k < 9 → parseFieldDescriptor (TX9 k).2.2.1 = some (tyX9 k) := by decide +kernel
def RX10 : String := "SheetDoctor$Values"
def TX10 : u_T := fun k => match k with
  | 0 => ("SheetDoctor$Values", "sheet", "LSheetDoctor$Sheet;", true)
  | 1 => ("SheetDoctor$Values", "links", "LSheetDoctor$Links;", true)
  | 2 => ("SheetDoctor$Values", "value", "[I", true)
  | 3 => ("SheetDoctor$Values", "error", "[I", true)
  | 4 => ("SheetDoctor$Values", "span", "[I", true)
  | 5 => ("SheetDoctor$Values", "open", "[I", true)
  | 6 => ("SheetDoctor$Values", "openCount", "I", false)
  | 7 => ("SheetDoctor$Values", "wrong", "I", false)
  | _ => ("SheetDoctor$Values", "version", "I", false)
def tyX10 : Nat → FieldType := fun k => match k with
  | 0 => .object "SheetDoctor$Sheet"
  | 1 => .object "SheetDoctor$Links"
  | 2 => .array .int
  | 3 => .array .int
  | 4 => .array .int
  | 5 => .array .int
  | 6 => .int
  | 7 => .int
  | _ => .int
theorem nmX10 : ∀ a, a < 9 → ∀ b, b < 9 → a ≠ b → (TX10 a).2.1 ≠ (TX10 b).2.1 := by decide +kernel
theorem tyX10_ok : ∀ k, k < 9 → parseFieldDescriptor (TX10 k).2.2.1 = some (tyX10 k) := by decide +kernel
def RX11 : String := "SheetDoctor"
def TX11 : u_T := fun k => match k with
  | 0 => ("SheetDoctor", "tape", "LSheetDoctor$Tape;", true)
  | 1 => ("SheetDoctor", "sheet", "LSheetDoctor$Sheet;", true)
  | 2 => ("SheetDoctor", "links", "LSheetDoctor$Links;", true)
  | 3 => ("SheetDoctor", "values", "LSheetDoctor$Values;", true)
  | 4 => ("SheetDoctor", "families", "LSheetDoctor$Families;", true)
  | 5 => ("SheetDoctor", "units", "LSheetDoctor$Units;", true)
  | 6 => ("SheetDoctor", "totals", "LSheetDoctor$Totals;", true)
  | 7 => ("SheetDoctor", "findings", "LSheetDoctor$Findings;", true)
  | _ => ("SheetDoctor", "changes", "LSheetDoctor$Changes;", true)
def tyX11 : Nat → FieldType := fun k => match k with
  | 0 => .object "SheetDoctor$Tape"
  | 1 => .object "SheetDoctor$Sheet"
  | 2 => .object "SheetDoctor$Links"
  | 3 => .object "SheetDoctor$Values"
  | 4 => .object "SheetDoctor$Families"
  | 5 => .object "SheetDoctor$Units"
  | 6 => .object "SheetDoctor$Totals"
  | 7 => .object "SheetDoctor$Findings"
  | _ => .object "SheetDoctor$Changes"
theorem nmX11 : ∀ a, a < 9 → ∀ b, b < 9 → a ≠ b → (TX11 a).2.1 ≠ (TX11 b).2.1 := by decide +kernel
theorem tyX11_ok : ∀ k, k < 9 → parseFieldDescriptor (TX11 k).2.2.1 = some (tyX11 k) := by decide +kernel
def RX12 : String := "SheetDoctorModel"
def TX12 : u_T := fun k => match k with
  | 0 => ("SheetDoctorModel", "thrown", "I", false)
  | 1 => ("SheetDoctorModel", "tape", "[I", true)
  | 2 => ("SheetDoctorModel", "taped", "I", false)
  | 3 => ("SheetDoctorModel", "size", "I", false)
  | 4 => ("SheetDoctorModel", "sort", "[I", true)
  | 5 => ("SheetDoctorModel", "place", "[I", true)
  | 6 => ("SheetDoctorModel", "value", "[J", true)
  | 7 => ("SheetDoctorModel", "at", "I", false)
  | 8 => ("SheetDoctorModel", "fault", "I", false)
  | 9 => ("SheetDoctorModel", "item", "[I", true)
  | 10 => ("SheetDoctorModel", "itemA", "[I", true)
  | 11 => ("SheetDoctorModel", "itemB", "[I", true)
  | 12 => ("SheetDoctorModel", "itemFixed", "[I", true)
  | 13 => ("SheetDoctorModel", "items", "[I", true)
  | 14 => ("SheetDoctorModel", "deep", "I", false)
  | 15 => ("SheetDoctorModel", "kind", "[I", true)
  | 16 => ("SheetDoctorModel", "number", "[I", true)
  | 17 => ("SheetDoctorModel", "units", "[I", true)
  | 18 => ("SheetDoctorModel", "isKept", "[Z", true)
  | 19 => ("SheetDoctorModel", "undos", "I", false)
  | 20 => ("SheetDoctorModel", "undoPlace", "[I", true)
  | 21 => ("SheetDoctorModel", "reads", "[J", true)
  | 22 => ("SheetDoctorModel", "reaches", "[J", true)
  | 23 => ("SheetDoctorModel", "worth", "[I", true)
  | 24 => ("SheetDoctorModel", "error", "[I", true)
  | 25 => ("SheetDoctorModel", "unitOf", "[I", true)
  | 26 => ("SheetDoctorModel", "clashes", "[Z", true)
  | 27 => ("SheetDoctorModel", "isTotal", "[Z", true)
  | 28 => ("SheetDoctorModel", "family", "[I", true)
  | 29 => ("SheetDoctorModel", "ways", "[I", true)
  | 30 => ("SheetDoctorModel", "isDone", "[Z", true)
  | 31 => ("SheetDoctorModel", "go", "I", false)
  | 32 => ("SheetDoctorModel", "end", "I", false)
  | 33 => ("SheetDoctorModel", "met", "I", false)
  | 34 => ("SheetDoctorModel", "clash", "Z", false)
  | 35 => ("SheetDoctorModel", "top", "I", false)
  | 36 => ("SheetDoctorModel", "pile", "[I", true)
  | 37 => ("SheetDoctorModel", "found", "I", false)
  | 38 => ("SheetDoctorModel", "finding", "[I", true)
  | 39 => ("SheetDoctorModel", "oldWorth", "[I", true)
  | 40 => ("SheetDoctorModel", "oldError", "[I", true)
  | 41 => ("SheetDoctorModel", "changes", "I", false)
  | _ => ("SheetDoctorModel", "change", "[I", true)
def tyX12 : Nat → FieldType := fun k => match k with
  | 0 => .int
  | 1 => .array .int
  | 2 => .int
  | 3 => .int
  | 4 => .array .int
  | 5 => .array .int
  | 6 => .array .long
  | 7 => .int
  | 8 => .int
  | 9 => .array .int
  | 10 => .array .int
  | 11 => .array .int
  | 12 => .array .int
  | 13 => .array .int
  | 14 => .int
  | 15 => .array .int
  | 16 => .array .int
  | 17 => .array .int
  | 18 => .array .boolean
  | 19 => .int
  | 20 => .array .int
  | 21 => .array .long
  | 22 => .array .long
  | 23 => .array .int
  | 24 => .array .int
  | 25 => .array .int
  | 26 => .array .boolean
  | 27 => .array .boolean
  | 28 => .array .int
  | 29 => .array .int
  | 30 => .array .boolean
  | 31 => .int
  | 32 => .int
  | 33 => .int
  | 34 => .boolean
  | 35 => .int
  | 36 => .array .int
  | 37 => .int
  | 38 => .array .int
  | 39 => .array .int
  | 40 => .array .int
  | 41 => .int
  | _ => .array .int
theorem nmX12 : ∀ a, a < 43 → ∀ b, b < 43 → a ≠ b → (TX12 a).2.1 ≠ (TX12 b).2.1 := by decide +kernel
theorem tyX12_ok : ∀ k, k < 43 → parseFieldDescriptor (TX12 k).2.2.1 = some (tyX12 k) := by decide +kernel
def RL : String := "SheetDoctorLaw"
def RJ13 : String := "java/lang/Long"
def RJ9 : String := "java/lang/Math"
abbrev cX0_init : ByteArray := prog_2_method_1_code
def yX0_init : MethodName := ⟨RX0, "<init>", "(IILSheetDoctor$Formula;)V"⟩
abbrev cX0_init_ : ByteArray := prog_2_method_2_code
def yX0_init_ : MethodName := ⟨RX0, "<init>", "(IIII)V"⟩
abbrev cX0_fits : ByteArray := prog_2_method_3_code
def yX0_fits : MethodName := ⟨RX0, "fits", "(I)Z"⟩
abbrev cX0_withoutUnit : ByteArray := prog_2_method_4_code
def yX0_withoutUnit : MethodName := ⟨RX0, "withoutUnit", "()LSheetDoctor$Cell;"⟩
abbrev cX1_init : ByteArray := prog_3_method_1_code
def yX1_init : MethodName := ⟨RX1, "<init>", "(LSheetDoctor$Values;)V"⟩
abbrev cX1_forget : ByteArray := prog_3_method_2_code
def yX1_forget : MethodName := ⟨RX1, "forget", "()V"⟩
abbrev cX1_remember : ByteArray := prog_3_method_3_code
def yX1_remember : MethodName := ⟨RX1, "remember", "()V"⟩
abbrev cX1_compare : ByteArray := prog_3_method_4_code
def yX1_compare : MethodName := ⟨RX1, "compare", "()I"⟩
abbrev cX1_tell : ByteArray := prog_3_method_5_code
def yX1_tell : MethodName := ⟨RX1, "tell", "(II)I"⟩
abbrev cX2_init : ByteArray := prog_4_method_1_code
def yX2_init : MethodName := ⟨RX2, "<init>", "(LSheetDoctor$Sheet;)V"⟩
abbrev cX2_settle : ByteArray := prog_4_method_2_code
def yX2_settle : MethodName := ⟨RX2, "settle", "()V"⟩
abbrev cX2_familyOf : ByteArray := prog_4_method_3_code
def yX2_familyOf : MethodName := ⟨RX2, "familyOf", "(ILSheetDoctor$Formula;)I"⟩
abbrev cX2_familyAt : ByteArray := prog_4_method_4_code
def yX2_familyAt : MethodName := ⟨RX2, "familyAt", "(I)I"⟩
abbrev cX2_areKin : ByteArray := prog_4_method_5_code
def yX2_areKin : MethodName := ⟨RX2, "areKin", "(II)Z"⟩
abbrev cX2_neighbourToCopy : ByteArray := prog_4_method_6_code
def yX2_neighbourToCopy : MethodName := ⟨RX2, "neighbourToCopy", "(I)I"⟩
abbrev cX2_isStranger : ByteArray := prog_4_method_7_code
def yX2_isStranger : MethodName := ⟨RX2, "isStranger", "(III)Z"⟩
abbrev cX3_init : ByteArray := prog_5_method_1_code
def yX3_init : MethodName := ⟨RX3, "<init>", "(LSheetDoctor$Sheet;LSheetDoctor$Links;LSheetDoctor$Families;LSheetDoctor$Units;LSheetDoctor$Totals;)V"⟩
abbrev cX3_gather : ByteArray := prog_5_method_2_code
def yX3_gather : MethodName := ⟨RX3, "gather", "()I"⟩
abbrev cX3_tell : ByteArray := prog_5_method_3_code
def yX3_tell : MethodName := ⟨RX3, "tell", "(II)I"⟩
abbrev cX3_gatherOf : ByteArray := prog_5_method_4_code
def yX3_gatherOf : MethodName := ⟨RX3, "gatherOf", "(I)V"⟩
abbrev cX3_gatherShort : ByteArray := prog_5_method_5_code
def yX3_gatherShort : MethodName := ⟨RX3, "gatherShort", "(ILSheetDoctor$Formula;)V"⟩
abbrev cX3_add : ByteArray := prog_5_method_6_code
def yX3_add : MethodName := ⟨RX3, "add", "(III)V"⟩
abbrev cX3_shortBelow : ByteArray := prog_5_method_7_code
def yX3_shortBelow : MethodName := ⟨RX3, "shortBelow", "(ILSheetDoctor$Formula;I)I"⟩
abbrev cX3_shortRight : ByteArray := prog_5_method_8_code
def yX3_shortRight : MethodName := ⟨RX3, "shortRight", "(ILSheetDoctor$Formula;I)I"⟩
abbrev cX3_goesOn : ByteArray := prog_5_method_9_code
def yX3_goesOn : MethodName := ⟨RX3, "goesOn", "(III)Z"⟩
abbrev cX4_init : ByteArray := prog_6_method_1_code
def yX4_init : MethodName := ⟨RX4, "<init>", "([I[I[II)V"⟩
abbrev cX4_reference : ByteArray := prog_6_method_2_code
def yX4_reference : MethodName := ⟨RX4, "reference", "(IZZI)I"⟩
abbrev cX4_columnOf : ByteArray := prog_6_method_3_code
def yX4_columnOf : MethodName := ⟨RX4, "columnOf", "(II)I"⟩
abbrev cX4_rowOf : ByteArray := prog_6_method_4_code
def yX4_rowOf : MethodName := ⟨RX4, "rowOf", "(II)I"⟩
abbrev cX4_size : ByteArray := prog_6_method_5_code
def yX4_size : MethodName := ⟨RX4, "size", "()I"⟩
abbrev cX4_stepAt : ByteArray := prog_6_method_6_code
def yX4_stepAt : MethodName := ⟨RX4, "stepAt", "(I)I"⟩
abbrev cX4_constantAt : ByteArray := prog_6_method_7_code
def yX4_constantAt : MethodName := ⟨RX4, "constantAt", "(I)I"⟩
abbrev cX4_readsAt : ByteArray := prog_6_method_8_code
def yX4_readsAt : MethodName := ⟨RX4, "readsAt", "(I)Z"⟩
abbrev cX4_left : ByteArray := prog_6_method_9_code
def yX4_left : MethodName := ⟨RX4, "left", "(II)I"⟩
abbrev cX4_top : ByteArray := prog_6_method_10_code
def yX4_top : MethodName := ⟨RX4, "top", "(II)I"⟩
abbrev cX4_right : ByteArray := prog_6_method_11_code
def yX4_right : MethodName := ⟨RX4, "right", "(II)I"⟩
abbrev cX4_bottom : ByteArray := prog_6_method_12_code
def yX4_bottom : MethodName := ⟨RX4, "bottom", "(II)I"⟩
abbrev cX4_listPlaces : ByteArray := prog_6_method_13_code
def yX4_listPlaces : MethodName := ⟨RX4, "listPlaces", "(II[I)I"⟩
abbrev cX4_stepOfSum : ByteArray := prog_6_method_14_code
def yX4_stepOfSum : MethodName := ⟨RX4, "stepOfSum", "(I)I"⟩
abbrev cX4_isOfReadsAndPlus : ByteArray := prog_6_method_15_code
def yX4_isOfReadsAndPlus : MethodName := ⟨RX4, "isOfReadsAndPlus", "()Z"⟩
abbrev cX4_isKinOf : ByteArray := prog_6_method_16_code
def yX4_isKinOf : MethodName := ⟨RX4, "isKinOf", "(LSheetDoctor$Formula;)Z"⟩
abbrev cX4_fits : ByteArray := prog_6_method_17_code
def yX4_fits : MethodName := ⟨RX4, "fits", "(I)Z"⟩
abbrev cX4_spanFits : ByteArray := prog_6_method_18_code
def yX4_spanFits : MethodName := ⟨RX4, "spanFits", "(II)Z"⟩
abbrev cX4_stretched : ByteArray := prog_6_method_19_code
def yX4_stretched : MethodName := ⟨RX4, "stretched", "(III)LSheetDoctor$Formula;"⟩
abbrev cX5_init : ByteArray := prog_7_method_1_code
def yX5_init : MethodName := ⟨RX5, "<init>", "(LSheetDoctor$Sheet;)V"⟩
abbrev cX5_settle : ByteArray := prog_7_method_2_code
def yX5_settle : MethodName := ⟨RX5, "settle", "()V"⟩
abbrev cX5_inRing : ByteArray := prog_7_method_3_code
def yX5_inRing : MethodName := ⟨RX5, "inRing", "(I)Z"⟩
abbrev cX5_orderSize : ByteArray := prog_7_method_4_code
def yX5_orderSize : MethodName := ⟨RX5, "orderSize", "()I"⟩
abbrev cX5_inOrder : ByteArray := prog_7_method_5_code
def yX5_inOrder : MethodName := ⟨RX5, "inOrder", "(I)I"⟩
abbrev cX5_cellsReadBy : ByteArray := prog_7_method_6_code
def yX5_cellsReadBy : MethodName := ⟨RX5, "cellsReadBy", "(I)I"⟩
abbrev cX5_readersOf : ByteArray := prog_7_method_7_code
def yX5_readersOf : MethodName := ⟨RX5, "readersOf", "(I)I"⟩
abbrev cX5_forgetReads : ByteArray := prog_7_method_8_code
def yX5_forgetReads : MethodName := ⟨RX5, "forgetReads", "()V"⟩
abbrev cX5_gatherReads : ByteArray := prog_7_method_9_code
def yX5_gatherReads : MethodName := ⟨RX5, "gatherReads", "()V"⟩
abbrev cX5_gatherReadsOf : ByteArray := prog_7_method_10_code
def yX5_gatherReadsOf : MethodName := ⟨RX5, "gatherReadsOf", "(ILSheetDoctor$Formula;)V"⟩
abbrev cX5_formulasReadBy : ByteArray := prog_7_method_11_code
def yX5_formulasReadBy : MethodName := ⟨RX5, "formulasReadBy", "(I)I"⟩
abbrev cX5_appendToOrder : ByteArray := prog_7_method_12_code
def yX5_appendToOrder : MethodName := ⟨RX5, "appendToOrder", "(I)V"⟩
abbrev cX5_release : ByteArray := prog_7_method_13_code
def yX5_release : MethodName := ⟨RX5, "release", "(I)V"⟩
abbrev cX5_findRings : ByteArray := prog_7_method_14_code
def yX5_findRings : MethodName := ⟨RX5, "findRings", "()V"⟩
abbrev cX5_reachThrough : ByteArray := prog_7_method_15_code
def yX5_reachThrough : MethodName := ⟨RX5, "reachThrough", "(I)V"⟩
abbrev cX6_init : ByteArray := prog_8_method_1_code
def yX6_init : MethodName := ⟨RX6, "<init>", "()V"⟩
abbrev cX6_at : ByteArray := prog_8_method_2_code
def yX6_at : MethodName := ⟨RX6, "at", "(I)LSheetDoctor$Cell;"⟩
abbrev cX6_kindAt : ByteArray := prog_8_method_3_code
def yX6_kindAt : MethodName := ⟨RX6, "kindAt", "(I)I"⟩
abbrev cX6_formulaAt : ByteArray := prog_8_method_4_code
def yX6_formulaAt : MethodName := ⟨RX6, "formulaAt", "(I)LSheetDoctor$Formula;"⟩
abbrev cX6_copyFor : ByteArray := prog_8_method_5_code
def yX6_copyFor : MethodName := ⟨RX6, "copyFor", "(II)LSheetDoctor$Cell;"⟩
abbrev cX6_isKept : ByteArray := prog_8_method_6_code
def yX6_isKept : MethodName := ⟨RX6, "isKept", "(I)Z"⟩
abbrev cX6_setKept : ByteArray := prog_8_method_7_code
def yX6_setKept : MethodName := ⟨RX6, "setKept", "(IZ)Z"⟩
abbrev cX6_cellsOfKind : ByteArray := prog_8_method_8_code
def yX6_cellsOfKind : MethodName := ⟨RX6, "cellsOfKind", "(I)I"⟩
abbrev cX6_replace : ByteArray := prog_8_method_9_code
def yX6_replace : MethodName := ⟨RX6, "replace", "(ILSheetDoctor$Cell;)V"⟩
abbrev cX6_put : ByteArray := prog_8_method_10_code
def yX6_put : MethodName := ⟨RX6, "put", "(ILSheetDoctor$Cell;)V"⟩
abbrev cX6_forgetOldest : ByteArray := prog_8_method_11_code
def yX6_forgetOldest : MethodName := ⟨RX6, "forgetOldest", "()V"⟩
abbrev cX6_takeBack : ByteArray := prog_8_method_12_code
def yX6_takeBack : MethodName := ⟨RX6, "takeBack", "()V"⟩
abbrev cX7_init : ByteArray := prog_9_method_1_code
def yX7_init : MethodName := ⟨RX7, "<init>", "()V"⟩
abbrev cX7_append : ByteArray := prog_9_method_2_code
def yX7_append : MethodName := ⟨RX7, "append", "(J)V"⟩
abbrev cX7_read : ByteArray := prog_9_method_3_code
def yX7_read : MethodName := ⟨RX7, "read", "(I)LSheetDoctor$Formula;"⟩
abbrev cX7_findTokens : ByteArray := prog_9_method_4_code
def yX7_findTokens : MethodName := ⟨RX7, "findTokens", "()V"⟩
abbrev cX7_endOfToken : ByteArray := prog_9_method_5_code
def yX7_endOfToken : MethodName := ⟨RX7, "endOfToken", "(I)I"⟩
abbrev cX7_kindOf : ByteArray := prog_9_method_6_code
def yX7_kindOf : MethodName := ⟨RX7, "kindOf", "(II)I"⟩
abbrev cX7_addToken : ByteArray := prog_9_method_7_code
def yX7_addToken : MethodName := ⟨RX7, "addToken", "(III)V"⟩
abbrev cX7_wordAmount : ByteArray := prog_9_method_8_code
def yX7_wordAmount : MethodName := ⟨RX7, "wordAmount", "(II)I"⟩
abbrev cX7_digitsAmount : ByteArray := prog_9_method_9_code
def yX7_digitsAmount : MethodName := ⟨RX7, "digitsAmount", "(II)I"⟩
abbrev cX7_isLetter : ByteArray := prog_9_method_10_code
def yX7_isLetter : MethodName := ⟨RX7, "isLetter", "(C)Z"⟩
abbrev cX7_isDigit : ByteArray := prog_9_method_11_code
def yX7_isDigit : MethodName := ⟨RX7, "isDigit", "(C)Z"⟩
abbrev cX7_kind : ByteArray := prog_9_method_12_code
def yX7_kind : MethodName := ⟨RX7, "kind", "()I"⟩
abbrev cX7_amount : ByteArray := prog_9_method_13_code
def yX7_amount : MethodName := ⟨RX7, "amount", "()I"⟩
abbrev cX7_wrong : ByteArray := prog_9_method_14_code
def yX7_wrong : MethodName := ⟨RX7, "wrong", "(I)Z"⟩
abbrev cX7_add : ByteArray := prog_9_method_15_code
def yX7_add : MethodName := ⟨RX7, "add", "(III)V"⟩
abbrev cX7_sum : ByteArray := prog_9_method_16_code
def yX7_sum : MethodName := ⟨RX7, "sum", "(I)Z"⟩
abbrev cX7_product : ByteArray := prog_9_method_17_code
def yX7_product : MethodName := ⟨RX7, "product", "(I)Z"⟩
abbrev cX7_part : ByteArray := prog_9_method_18_code
def yX7_part : MethodName := ⟨RX7, "part", "(I)Z"⟩
abbrev cX7_startsPart : ByteArray := prog_9_method_19_code
def yX7_startsPart : MethodName := ⟨RX7, "startsPart", "()Z"⟩
abbrev cX7_brackets : ByteArray := prog_9_method_20_code
def yX7_brackets : MethodName := ⟨RX7, "brackets", "(I)Z"⟩
abbrev cX7_negated : ByteArray := prog_9_method_21_code
def yX7_negated : MethodName := ⟨RX7, "negated", "(I)Z"⟩
abbrev cX7_single : ByteArray := prog_9_method_22_code
def yX7_single : MethodName := ⟨RX7, "single", "()Z"⟩
abbrev cX7_span : ByteArray := prog_9_method_23_code
def yX7_span : MethodName := ⟨RX7, "span", "()Z"⟩
abbrev cX7_take : ByteArray := prog_9_method_24_code
def yX7_take : MethodName := ⟨RX7, "take", "(I)Z"⟩
abbrev cX7_reference : ByteArray := prog_9_method_25_code
def yX7_reference : MethodName := ⟨RX7, "reference", "(II)I"⟩
abbrev cX7_columnFault : ByteArray := prog_9_method_26_code
def yX7_columnFault : MethodName := ⟨RX7, "columnFault", "(III)I"⟩
abbrev cX7_rowFault : ByteArray := prog_9_method_27_code
def yX7_rowFault : MethodName := ⟨RX7, "rowFault", "(III)I"⟩
abbrev cX8_init : ByteArray := prog_10_method_1_code
def yX8_init : MethodName := ⟨RX8, "<init>", "(LSheetDoctor$Sheet;LSheetDoctor$Links;)V"⟩
abbrev cX8_settle : ByteArray := prog_10_method_2_code
def yX8_settle : MethodName := ⟨RX8, "settle", "()V"⟩
abbrev cX8_isTotal : ByteArray := prog_10_method_3_code
def yX8_isTotal : MethodName := ⟨RX8, "isTotal", "(I)Z"⟩
abbrev cX8_waysInto : ByteArray := prog_10_method_4_code
def yX8_waysInto : MethodName := ⟨RX8, "waysInto", "(II)I"⟩
abbrev cX8_waysThrough : ByteArray := prog_10_method_5_code
def yX8_waysThrough : MethodName := ⟨RX8, "waysThrough", "(IILSheetDoctor$Formula;)I"⟩
abbrev cX8_waysBy : ByteArray := prog_10_method_6_code
def yX8_waysBy : MethodName := ⟨RX8, "waysBy", "(II)I"⟩
abbrev cX8_gatherTwice : ByteArray := prog_10_method_7_code
def yX8_gatherTwice : MethodName := ⟨RX8, "gatherTwice", "()V"⟩
abbrev cX8_forgetTwiceOf : ByteArray := prog_10_method_8_code
def yX8_forgetTwiceOf : MethodName := ⟨RX8, "forgetTwiceOf", "(I)V"⟩
abbrev cX8_gatherTwiceOf : ByteArray := prog_10_method_9_code
def yX8_gatherTwiceOf : MethodName := ⟨RX8, "gatherTwiceOf", "(ILSheetDoctor$Formula;)V"⟩
abbrev cX8_addRead : ByteArray := prog_10_method_10_code
def yX8_addRead : MethodName := ⟨RX8, "addRead", "(II)V"⟩
abbrev cX8_addWaysOf : ByteArray := prog_10_method_11_code
def yX8_addWaysOf : MethodName := ⟨RX8, "addWaysOf", "(II)V"⟩
abbrev cX8_leastTwice : ByteArray := prog_10_method_12_code
def yX8_leastTwice : MethodName := ⟨RX8, "leastTwice", "(I)I"⟩
abbrev cX9_init : ByteArray := prog_11_method_1_code
def yX9_init : MethodName := ⟨RX9, "<init>", "(LSheetDoctor$Sheet;LSheetDoctor$Links;)V"⟩
abbrev cX9_settle : ByteArray := prog_11_method_2_code
def yX9_settle : MethodName := ⟨RX9, "settle", "()V"⟩
abbrev cX9_exponentAt : ByteArray := prog_11_method_3_code
def yX9_exponentAt : MethodName := ⟨RX9, "exponentAt", "(II)I"⟩
abbrev cX9_clashesAt : ByteArray := prog_11_method_4_code
def yX9_clashesAt : MethodName := ⟨RX9, "clashesAt", "(I)Z"⟩
abbrev cX9_workOut : ByteArray := prog_11_method_5_code
def yX9_workOut : MethodName := ⟨RX9, "workOut", "(ILSheetDoctor$Formula;)V"⟩
abbrev cX9_firstFilled : ByteArray := prog_11_method_6_code
def yX9_firstFilled : MethodName := ⟨RX9, "firstFilled", "(ILSheetDoctor$Formula;I)I"⟩
abbrev cX9_areSame : ByteArray := prog_11_method_7_code
def yX9_areSame : MethodName := ⟨RX9, "areSame", "(II)Z"⟩
abbrev cX9_pushUnitOf : ByteArray := prog_11_method_8_code
def yX9_pushUnitOf : MethodName := ⟨RX9, "pushUnitOf", "(I)V"⟩
abbrev cX9_join : ByteArray := prog_11_method_9_code
def yX9_join : MethodName := ⟨RX9, "join", "(I)V"⟩
abbrev cX10_init : ByteArray := prog_12_method_1_code
def yX10_init : MethodName := ⟨RX10, "<init>", "(LSheetDoctor$Sheet;LSheetDoctor$Links;)V"⟩
abbrev cX10_settle : ByteArray := prog_12_method_2_code
def yX10_settle : MethodName := ⟨RX10, "settle", "()V"⟩
abbrev cX10_valueAt : ByteArray := prog_12_method_3_code
def yX10_valueAt : MethodName := ⟨RX10, "valueAt", "(I)I"⟩
abbrev cX10_errorAt : ByteArray := prog_12_method_4_code
def yX10_errorAt : MethodName := ⟨RX10, "errorAt", "(I)I"⟩
abbrev cX10_errors : ByteArray := prog_12_method_5_code
def yX10_errors : MethodName := ⟨RX10, "errors", "()I"⟩
abbrev cX10_workOut : ByteArray := prog_12_method_6_code
def yX10_workOut : MethodName := ⟨RX10, "workOut", "(ILSheetDoctor$Formula;)V"⟩
abbrev cX10_spanSum : ByteArray := prog_12_method_7_code
def yX10_spanSum : MethodName := ⟨RX10, "spanSum", "(ILSheetDoctor$Formula;I)I"⟩
abbrev cX10_join : ByteArray := prog_12_method_8_code
def yX10_join : MethodName := ⟨RX10, "join", "(I)V"⟩
abbrev cX10_quotient : ByteArray := prog_12_method_9_code
def yX10_quotient : MethodName := ⟨RX10, "quotient", "(II)I"⟩
abbrev cX10_push : ByteArray := prog_12_method_10_code
def yX10_push : MethodName := ⟨RX10, "push", "(I)V"⟩
abbrev cX10_pop : ByteArray := prog_12_method_11_code
def yX10_pop : MethodName := ⟨RX10, "pop", "()I"⟩
abbrev cX11_init : ByteArray := prog_1_method_1_code
def yX11_init : MethodName := ⟨RX11, "<init>", "()V"⟩
abbrev cX11_feed : ByteArray := prog_1_method_2_code
def yX11_feed : MethodName := ⟨RX11, "feed", "(JJJ)I"⟩
abbrev cX11_formula : ByteArray := prog_1_method_3_code
def yX11_formula : MethodName := ⟨RX11, "formula", "(I)I"⟩
abbrev cX11_number : ByteArray := prog_1_method_4_code
def yX11_number : MethodName := ⟨RX11, "number", "(II)Z"⟩
abbrev cX11_empty : ByteArray := prog_1_method_5_code
def yX11_empty : MethodName := ⟨RX11, "empty", "(I)Z"⟩
abbrev cX11_copy : ByteArray := prog_1_method_6_code
def yX11_copy : MethodName := ⟨RX11, "copy", "(II)Z"⟩
abbrev cX11_unit : ByteArray := prog_1_method_7_code
def yX11_unit : MethodName := ⟨RX11, "unit", "(IIII)Z"⟩
abbrev cX11_keep : ByteArray := prog_1_method_8_code
def yX11_keep : MethodName := ⟨RX11, "keep", "(IZ)Z"⟩
abbrev cX11_check : ByteArray := prog_1_method_9_code
def yX11_check : MethodName := ⟨RX11, "check", "()I"⟩
abbrev cX11_finding : ByteArray := prog_1_method_10_code
def yX11_finding : MethodName := ⟨RX11, "finding", "(II)I"⟩
abbrev cX11_mend : ByteArray := prog_1_method_11_code
def yX11_mend : MethodName := ⟨RX11, "mend", "(I)I"⟩
abbrev cX11_stretch : ByteArray := prog_1_method_12_code
def yX11_stretch : MethodName := ⟨RX11, "stretch", "(II)I"⟩
abbrev cX11_changed : ByteArray := prog_1_method_13_code
def yX11_changed : MethodName := ⟨RX11, "changed", "(II)I"⟩
abbrev cX11_undo : ByteArray := prog_1_method_14_code
def yX11_undo : MethodName := ⟨RX11, "undo", "()I"⟩
abbrev cX11_cell : ByteArray := prog_1_method_15_code
def yX11_cell : MethodName := ⟨RX11, "cell", "(II)I"⟩
abbrev cX11_ways : ByteArray := prog_1_method_16_code
def yX11_ways : MethodName := ⟨RX11, "ways", "(II)I"⟩
abbrev cX11_count : ByteArray := prog_1_method_17_code
def yX11_count : MethodName := ⟨RX11, "count", "(I)I"⟩
abbrev cX11_stretchedFormula : ByteArray := prog_1_method_18_code
def yX11_stretchedFormula : MethodName := ⟨RX11, "stretchedFormula", "(II)LSheetDoctor$Formula;"⟩
abbrev cX11_onSheet : ByteArray := prog_1_method_19_code
def yX11_onSheet : MethodName := ⟨RX11, "onSheet", "(I)Z"⟩
abbrev cX11_isExponent : ByteArray := prog_1_method_20_code
def yX11_isExponent : MethodName := ⟨RX11, "isExponent", "(I)Z"⟩
abbrev cX11_hasBit : ByteArray := prog_1_method_21_code
def yX11_hasBit : MethodName := ⟨RX11, "hasBit", "([JII)Z"⟩
abbrev cX11_setBit : ByteArray := prog_1_method_22_code
def yX11_setBit : MethodName := ⟨RX11, "setBit", "([JII)V"⟩
abbrev cX12_thrown : ByteArray := prog_14_method_1_code
def yX12_thrown : MethodName := ⟨RX12, "thrown", "()I"⟩
abbrev cX12_feed : ByteArray := prog_14_method_2_code
def yX12_feed : MethodName := ⟨RX12, "feed", "(JJJ)I"⟩
abbrev cX12_lay : ByteArray := prog_14_method_3_code
def yX12_lay : MethodName := ⟨RX12, "lay", "(J)V"⟩
abbrev cX12_isLetter : ByteArray := prog_14_method_4_code
def yX12_isLetter : MethodName := ⟨RX12, "isLetter", "(I)Z"⟩
abbrev cX12_isDigit : ByteArray := prog_14_method_5_code
def yX12_isDigit : MethodName := ⟨RX12, "isDigit", "(I)Z"⟩
abbrev cX12_isSignOf : ByteArray := prog_14_method_6_code
def yX12_isSignOf : MethodName := ⟨RX12, "isSignOf", "(I)Z"⟩
abbrev cX12_cutAll : ByteArray := prog_14_method_7_code
def yX12_cutAll : MethodName := ⟨RX12, "cutAll", "()V"⟩
abbrev cX12_wrong : ByteArray := prog_14_method_8_code
def yX12_wrong : MethodName := ⟨RX12, "wrong", "(I)V"⟩
abbrev cX12_isSign : ByteArray := prog_14_method_9_code
def yX12_isSign : MethodName := ⟨RX12, "isSign", "(I)Z"⟩
abbrev cX12_hasSign : ByteArray := prog_14_method_10_code
def yX12_hasSign : MethodName := ⟨RX12, "hasSign", "(I)Z"⟩
abbrev cX12_init : ByteArray := prog_14_method_11_code
def yX12_init : MethodName := ⟨RX12, "<init>", "()V"⟩
abbrev cX12_add : ByteArray := prog_14_method_12_code
def yX12_add : MethodName := ⟨RX12, "add", "(IIII)V"⟩
abbrev cX12_takeSign : ByteArray := prog_14_method_13_code
def yX12_takeSign : MethodName := ⟨RX12, "takeSign", "(I)V"⟩
abbrev cX12_isSum : ByteArray := prog_14_method_14_code
def yX12_isSum : MethodName := ⟨RX12, "isSum", "()Z"⟩
abbrev cX12_isColumn : ByteArray := prog_14_method_15_code
def yX12_isColumn : MethodName := ⟨RX12, "isColumn", "()Z"⟩
abbrev cX12_readE : ByteArray := prog_14_method_16_code
def yX12_readE : MethodName := ⟨RX12, "readE", "()V"⟩
abbrev cX12_readProduct : ByteArray := prog_14_method_17_code
def yX12_readProduct : MethodName := ⟨RX12, "readProduct", "()V"⟩
abbrev cX12_isPart : ByteArray := prog_14_method_18_code
def yX12_isPart : MethodName := ⟨RX12, "isPart", "()Z"⟩
abbrev cX12_readPart : ByteArray := prog_14_method_19_code
def yX12_readPart : MethodName := ⟨RX12, "readPart", "()V"⟩
abbrev cX12_readRef : ByteArray := prog_14_method_20_code
def yX12_readRef : MethodName := ⟨RX12, "readRef", "(I)V"⟩
abbrev cX12_copyRow : ByteArray := prog_14_method_21_code
def yX12_copyRow : MethodName := ⟨RX12, "copyRow", "(II)V"⟩
abbrev cX12_clearDraft : ByteArray := prog_14_method_22_code
def yX12_clearDraft : MethodName := ⟨RX12, "clearDraft", "(II)V"⟩
abbrev cX12_puts : ByteArray := prog_14_method_23_code
def yX12_puts : MethodName := ⟨RX12, "puts", "(I)V"⟩
abbrev cX12_isPlace : ByteArray := prog_14_method_24_code
def yX12_isPlace : MethodName := ⟨RX12, "isPlace", "(I)Z"⟩
abbrev cX12_formula : ByteArray := prog_14_method_25_code
def yX12_formula : MethodName := ⟨RX12, "formula", "(I)I"⟩
abbrev cX12_number : ByteArray := prog_14_method_26_code
def yX12_number : MethodName := ⟨RX12, "number", "(II)Z"⟩
abbrev cX12_empty : ByteArray := prog_14_method_27_code
def yX12_empty : MethodName := ⟨RX12, "empty", "(I)Z"⟩
abbrev cX12_makesCopy : ByteArray := prog_14_method_28_code
def yX12_makesCopy : MethodName := ⟨RX12, "makesCopy", "(II)Z"⟩
abbrev cX12_copy : ByteArray := prog_14_method_29_code
def yX12_copy : MethodName := ⟨RX12, "copy", "(II)Z"⟩
abbrev cX12_unit : ByteArray := prog_14_method_30_code
def yX12_unit : MethodName := ⟨RX12, "unit", "(IIII)Z"⟩
abbrev cX12_keep : ByteArray := prog_14_method_31_code
def yX12_keep : MethodName := ⟨RX12, "keep", "(IZ)Z"⟩
abbrev cX12_has : ByteArray := prog_14_method_32_code
def yX12_has : MethodName := ⟨RX12, "has", "([JII)Z"⟩
abbrev cX12_sets : ByteArray := prog_14_method_33_code
def yX12_sets : MethodName := ⟨RX12, "sets", "([JII)V"⟩
abbrev cX12_spanLast : ByteArray := prog_14_method_34_code
def yX12_spanLast : MethodName := ⟨RX12, "spanLast", "(II)I"⟩
abbrev cX12_findReads : ByteArray := prog_14_method_35_code
def yX12_findReads : MethodName := ⟨RX12, "findReads", "()V"⟩
abbrev cX12_isRing : ByteArray := prog_14_method_36_code
def yX12_isRing : MethodName := ⟨RX12, "isRing", "(I)Z"⟩
abbrev cX12_works : ByteArray := prog_14_method_37_code
def yX12_works : MethodName := ⟨RX12, "works", "()V"⟩
abbrev cX12_isReady : ByteArray := prog_14_method_38_code
def yX12_isReady : MethodName := ⟨RX12, "isReady", "(I)Z"⟩
abbrev cX12_work : ByteArray := prog_14_method_39_code
def yX12_work : MethodName := ⟨RX12, "work", "(I)V"⟩
abbrev cX12_isNext : ByteArray := prog_14_method_40_code
def yX12_isNext : MethodName := ⟨RX12, "isNext", "(I)Z"⟩
abbrev cX12_goE : ByteArray := prog_14_method_41_code
def yX12_goE : MethodName := ⟨RX12, "goE", "()I"⟩
abbrev cX12_goProduct : ByteArray := prog_14_method_42_code
def yX12_goProduct : MethodName := ⟨RX12, "goProduct", "()I"⟩
abbrev cX12_goPart : ByteArray := prog_14_method_43_code
def yX12_goPart : MethodName := ⟨RX12, "goPart", "()I"⟩
abbrev cX12_meets : ByteArray := prog_14_method_44_code
def yX12_meets : MethodName := ⟨RX12, "meets", "(I)I"⟩
abbrev cX12_sumOf : ByteArray := prog_14_method_45_code
def yX12_sumOf : MethodName := ⟨RX12, "sumOf", "(II)I"⟩
abbrev cX12_pushUnit : ByteArray := prog_14_method_46_code
def yX12_pushUnit : MethodName := ⟨RX12, "pushUnit", "(III)V"⟩
abbrev cX12_pushUnitOf : ByteArray := prog_14_method_47_code
def yX12_pushUnitOf : MethodName := ⟨RX12, "pushUnitOf", "(I)V"⟩
abbrev cX12_unitE : ByteArray := prog_14_method_48_code
def yX12_unitE : MethodName := ⟨RX12, "unitE", "()V"⟩
abbrev cX12_unitProduct : ByteArray := prog_14_method_49_code
def yX12_unitProduct : MethodName := ⟨RX12, "unitProduct", "()V"⟩
abbrev cX12_unitPart : ByteArray := prog_14_method_50_code
def yX12_unitPart : MethodName := ⟨RX12, "unitPart", "()V"⟩
abbrev cX12_unitSum : ByteArray := prog_14_method_51_code
def yX12_unitSum : MethodName := ⟨RX12, "unitSum", "(II)V"⟩
abbrev cX12_isUnitSame : ByteArray := prog_14_method_52_code
def yX12_isUnitSame : MethodName := ⟨RX12, "isUnitSame", "(II)Z"⟩
abbrev cX12_looksTotal : ByteArray := prog_14_method_53_code
def yX12_looksTotal : MethodName := ⟨RX12, "looksTotal", "(I)Z"⟩
abbrev cX12_countWays : ByteArray := prog_14_method_54_code
def yX12_countWays : MethodName := ⟨RX12, "countWays", "(I)V"⟩
abbrev cX12_addWays : ByteArray := prog_14_method_55_code
def yX12_addWays : MethodName := ⟨RX12, "addWays", "(II)V"⟩
abbrev cX12_addWay : ByteArray := prog_14_method_56_code
def yX12_addWay : MethodName := ⟨RX12, "addWay", "(III)V"⟩
abbrev cX12_isAlike : ByteArray := prog_14_method_57_code
def yX12_isAlike : MethodName := ⟨RX12, "isAlike", "(II)Z"⟩
abbrev cX12_findFamilies : ByteArray := prog_14_method_58_code
def yX12_findFamilies : MethodName := ⟨RX12, "findFamilies", "()V"⟩
abbrev cX12_finds : ByteArray := prog_14_method_59_code
def yX12_finds : MethodName := ⟨RX12, "finds", "(III)V"⟩
abbrev cX12_familyAt : ByteArray := prog_14_method_60_code
def yX12_familyAt : MethodName := ⟨RX12, "familyAt", "(II)I"⟩
abbrev cX12_oddBy : ByteArray := prog_14_method_61_code
def yX12_oddBy : MethodName := ⟨RX12, "oddBy", "(I)I"⟩
abbrev cX12_shortBy : ByteArray := prog_14_method_62_code
def yX12_shortBy : MethodName := ⟨RX12, "shortBy", "(IIZ)I"⟩
abbrev cX12_findShort : ByteArray := prog_14_method_63_code
def yX12_findShort : MethodName := ⟨RX12, "findShort", "(I)V"⟩
abbrev cX12_leastTwice : ByteArray := prog_14_method_64_code
def yX12_leastTwice : MethodName := ⟨RX12, "leastTwice", "(I)I"⟩
abbrev cX12_readers : ByteArray := prog_14_method_65_code
def yX12_readers : MethodName := ⟨RX12, "readers", "(I)I"⟩
abbrev cX12_check : ByteArray := prog_14_method_66_code
def yX12_check : MethodName := ⟨RX12, "check", "()I"⟩
abbrev cX12_finding : ByteArray := prog_14_method_67_code
def yX12_finding : MethodName := ⟨RX12, "finding", "(II)I"⟩
abbrev cX12_remembers : ByteArray := prog_14_method_68_code
def yX12_remembers : MethodName := ⟨RX12, "remembers", "()V"⟩
abbrev cX12_tells : ByteArray := prog_14_method_69_code
def yX12_tells : MethodName := ⟨RX12, "tells", "()I"⟩
abbrev cX12_mend : ByteArray := prog_14_method_70_code
def yX12_mend : MethodName := ⟨RX12, "mend", "(I)I"⟩
abbrev cX12_sumAt : ByteArray := prog_14_method_71_code
def yX12_sumAt : MethodName := ⟨RX12, "sumAt", "(II)I"⟩
abbrev cX12_stretch : ByteArray := prog_14_method_72_code
def yX12_stretch : MethodName := ⟨RX12, "stretch", "(II)I"⟩
abbrev cX12_changed : ByteArray := prog_14_method_73_code
def yX12_changed : MethodName := ⟨RX12, "changed", "(II)I"⟩
abbrev cX12_undo : ByteArray := prog_14_method_74_code
def yX12_undo : MethodName := ⟨RX12, "undo", "()I"⟩
abbrev cX12_readMany : ByteArray := prog_14_method_75_code
def yX12_readMany : MethodName := ⟨RX12, "readMany", "(I)I"⟩
abbrev cX12_cell : ByteArray := prog_14_method_76_code
def yX12_cell : MethodName := ⟨RX12, "cell", "(II)I"⟩
abbrev cX12_ways : ByteArray := prog_14_method_77_code
def yX12_ways : MethodName := ⟨RX12, "ways", "(II)I"⟩
abbrev cX12_count : ByteArray := prog_14_method_78_code
def yX12_count : MethodName := ⟨RX12, "count", "(I)I"⟩
abbrev cJ13_bitCount_95d88 : ByteArray := prog_18_method_50_code
def yJ13_bitCount_95d88 : MethodName := ⟨RJ13, "bitCount", "(J)I"⟩
abbrev cJ9_max_7cf53 : ByteArray := prog_19_method_65_code
def yJ9_max_7cf53 : MethodName := ⟨RJ9, "max", "(II)I"⟩
abbrev cJ9_min_7cf53 : ByteArray := prog_19_method_69_code
def yJ9_min_7cf53 : MethodName := ⟨RJ9, "min", "(II)I"⟩
abbrev cL_cell : ByteArray := method_3_code
def yL_cell : MethodName := ⟨RL, "cell", "(LSheetDoctor;II[J)I"⟩
abbrev cL_law : ByteArray := code
def yL_law : MethodName := ⟨RL, "law", "([I)Z"⟩
abbrev vwCl : List vw_C := [(RX0, TX0, 6), (RX1, TX1, 5), (RX2, TX2, 5), (RX3, TX3, 7), (RX4, TX4, 3), (RX5, TX5, 12), (RX6, TX6, 7), (RX7, TX7, 13), (RX8, TX8, 8), (RX9, TX9, 9), (RX10, TX10, 9), (RX11, TX11, 9), (RX12, TX12, 43)]
end
section
theorem dX0_init_0 : decode cX0_init 0 = .ok (.aload_n 0, 1) := by decide +kernel
theorem dX0_init_1 : decode cX0_init 1 = .ok (.invokespecial 3, 3) := by decide +kernel
theorem dX0_init_4 : decode cX0_init 4 = .ok (.aload_n 0, 1) := by decide +kernel
theorem dX0_init_5 : decode cX0_init 5 = .ok (.iload_n 1, 1) := by decide +kernel
theorem dX0_init_6 : decode cX0_init 6 = .ok (.putfield 9, 3) := by decide +kernel
theorem dX0_init_9 : decode cX0_init 9 = .ok (.aload_n 0, 1) := by decide +kernel
theorem dX0_init_10 : decode cX0_init 10 = .ok (.iload_n 2, 1) := by decide +kernel
theorem dX0_init_11 : decode cX0_init 11 = .ok (.putfield 15, 3) := by decide +kernel
theorem dX0_init_14 : decode cX0_init 14 = .ok (.aload_n 0, 1) := by decide +kernel
theorem dX0_init_15 : decode cX0_init 15 = .ok (.aload_n 3, 1) := by decide +kernel
theorem dX0_init_16 : decode cX0_init 16 = .ok (.putfield 18, 3) := by decide +kernel
theorem dX0_init_19 : decode cX0_init 19 = .ok (.aload_n 0, 1) := by decide +kernel
theorem dX0_init_20 : decode cX0_init 20 = .ok (.iconst 0, 1) := by decide +kernel
theorem dX0_init_21 : decode cX0_init 21 = .ok (.putfield 22, 3) := by decide +kernel
theorem dX0_init_24 : decode cX0_init 24 = .ok (.aload_n 0, 1) := by decide +kernel
theorem dX0_init_25 : decode cX0_init 25 = .ok (.iconst 0, 1) := by decide +kernel
theorem dX0_init_26 : decode cX0_init 26 = .ok (.putfield 25, 3) := by decide +kernel
theorem dX0_init_29 : decode cX0_init 29 = .ok (.aload_n 0, 1) := by decide +kernel
theorem dX0_init_30 : decode cX0_init 30 = .ok (.iconst 0, 1) := by decide +kernel
theorem dX0_init_31 : decode cX0_init 31 = .ok (.putfield 28, 3) := by decide +kernel
theorem dX0_init_34 : decode cX0_init 34 = .ok (.return_, 1) := by decide +kernel
theorem dX0_fits_0 : decode cX0_fits 0 = .ok (.aload_n 0, 1) := by decide +kernel
theorem dX0_fits_1 : decode cX0_fits 1 = .ok (.getfield 18, 3) := by decide +kernel
theorem dX0_fits_4 : decode cX0_fits 4 = .ok (.ifnull 14, 3) := by decide +kernel
theorem dX0_fits_7 : decode cX0_fits 7 = .ok (.aload_n 0, 1) := by decide +kernel
theorem dX0_fits_8 : decode cX0_fits 8 = .ok (.getfield 18, 3) := by decide +kernel
theorem dX0_fits_11 : decode cX0_fits 11 = .ok (.iload_n 1, 1) := by decide +kernel
theorem dX0_fits_12 : decode cX0_fits 12 = .ok (.invokevirtual 31, 3) := by decide +kernel
theorem dX0_fits_15 : decode cX0_fits 15 = .ok (.ifCond .eq 7, 3) := by decide +kernel
theorem dX0_fits_18 : decode cX0_fits 18 = .ok (.iconst 1, 1) := by decide +kernel
theorem dX0_fits_19 : decode cX0_fits 19 = .ok (.goto 4, 3) := by decide +kernel
theorem dX0_fits_22 : decode cX0_fits 22 = .ok (.iconst 0, 1) := by decide +kernel
theorem dX0_fits_23 : decode cX0_fits 23 = .ok (.ireturn, 1) := by decide +kernel
theorem dX0_withoutUnit_0 : decode cX0_withoutUnit 0 = .ok (.aload_n 0, 1) := by decide +kernel
theorem dX0_withoutUnit_1 : decode cX0_withoutUnit 1 = .ok (.getfield 9, 3) := by decide +kernel
theorem dX0_withoutUnit_4 : decode cX0_withoutUnit 4 = .ok (.iconst 1, 1) := by decide +kernel
theorem dX0_withoutUnit_5 : decode cX0_withoutUnit 5 = .ok (.if_icmp .ne 19, 3) := by decide +kernel
theorem dX0_withoutUnit_8 : decode cX0_withoutUnit 8 = .ok (.new 10, 3) := by decide +kernel
theorem dX0_withoutUnit_11 : decode cX0_withoutUnit 11 = .ok (.dup, 1) := by decide +kernel
theorem dX0_withoutUnit_12 : decode cX0_withoutUnit 12 = .ok (.iconst 1, 1) := by decide +kernel
theorem dX0_withoutUnit_13 : decode cX0_withoutUnit 13 = .ok (.aload_n 0, 1) := by decide +kernel
theorem dX0_withoutUnit_14 : decode cX0_withoutUnit 14 = .ok (.getfield 15, 3) := by decide +kernel
theorem dX0_withoutUnit_17 : decode cX0_withoutUnit 17 = .ok (.aconst_null, 1) := by decide +kernel
theorem dX0_withoutUnit_18 : decode cX0_withoutUnit 18 = .ok (.invokespecial 37, 3) := by decide +kernel
theorem dX0_withoutUnit_21 : decode cX0_withoutUnit 21 = .ok (.goto 4, 3) := by decide +kernel
theorem dX0_withoutUnit_24 : decode cX0_withoutUnit 24 = .ok (.aload_n 0, 1) := by decide +kernel
theorem dX0_withoutUnit_25 : decode cX0_withoutUnit 25 = .ok (.areturn, 1) := by decide +kernel
theorem dX1_init_0 : decode cX1_init 0 = .ok (.aload_n 0, 1) := by decide +kernel
theorem dX1_init_1 : decode cX1_init 1 = .ok (.invokespecial 3, 3) := by decide +kernel
theorem dX1_init_4 : decode cX1_init 4 = .ok (.aload_n 0, 1) := by decide +kernel
theorem dX1_init_5 : decode cX1_init 5 = .ok (.aload_n 1, 1) := by decide +kernel
theorem dX1_init_6 : decode cX1_init 6 = .ok (.putfield 9, 3) := by decide +kernel
theorem dX1_init_9 : decode cX1_init 9 = .ok (.aload_n 0, 1) := by decide +kernel
theorem dX1_init_10 : decode cX1_init 10 = .ok (.sipush 288, 3) := by decide +kernel
theorem dX1_init_13 : decode cX1_init 13 = .ok (.newarray .int, 2) := by decide +kernel
theorem dX1_init_15 : decode cX1_init 15 = .ok (.putfield 15, 3) := by decide +kernel
theorem dX1_init_18 : decode cX1_init 18 = .ok (.aload_n 0, 1) := by decide +kernel
theorem dX1_init_19 : decode cX1_init 19 = .ok (.sipush 288, 3) := by decide +kernel
theorem dX1_init_22 : decode cX1_init 22 = .ok (.newarray .int, 2) := by decide +kernel
theorem dX1_init_24 : decode cX1_init 24 = .ok (.putfield 19, 3) := by decide +kernel
theorem dX1_init_27 : decode cX1_init 27 = .ok (.aload_n 0, 1) := by decide +kernel
theorem dX1_init_28 : decode cX1_init 28 = .ok (.sipush 1440, 3) := by decide +kernel
theorem dX1_init_31 : decode cX1_init 31 = .ok (.newarray .int, 2) := by decide +kernel
theorem dX1_init_33 : decode cX1_init 33 = .ok (.putfield 22, 3) := by decide +kernel
theorem dX1_init_36 : decode cX1_init 36 = .ok (.aload_n 0, 1) := by decide +kernel
theorem dX1_init_37 : decode cX1_init 37 = .ok (.iconst 0, 1) := by decide +kernel
theorem dX1_init_38 : decode cX1_init 38 = .ok (.putfield 25, 3) := by decide +kernel
theorem dX1_init_41 : decode cX1_init 41 = .ok (.return_, 1) := by decide +kernel
theorem dX1_forget_0 : decode cX1_forget 0 = .ok (.aload_n 0, 1) := by decide +kernel
theorem dX1_forget_1 : decode cX1_forget 1 = .ok (.iconst 0, 1) := by decide +kernel
theorem dX1_forget_2 : decode cX1_forget 2 = .ok (.putfield 25, 3) := by decide +kernel
theorem dX1_forget_5 : decode cX1_forget 5 = .ok (.return_, 1) := by decide +kernel
theorem dX1_tell_0 : decode cX1_tell 0 = .ok (.iload_n 1, 1) := by decide +kernel
theorem dX1_tell_1 : decode cX1_tell 1 = .ok (.ifCond .lt 27, 3) := by decide +kernel
theorem dX1_tell_4 : decode cX1_tell 4 = .ok (.iload_n 1, 1) := by decide +kernel
theorem dX1_tell_5 : decode cX1_tell 5 = .ok (.aload_n 0, 1) := by decide +kernel
theorem dX1_tell_6 : decode cX1_tell 6 = .ok (.getfield 25, 3) := by decide +kernel
theorem dX1_tell_9 : decode cX1_tell 9 = .ok (.if_icmp .ge 19, 3) := by decide +kernel
theorem dX1_tell_12 : decode cX1_tell 12 = .ok (.iload_n 1, 1) := by decide +kernel
theorem dX1_tell_13 : decode cX1_tell 13 = .ok (.sipush 288, 3) := by decide +kernel
theorem dX1_tell_16 : decode cX1_tell 16 = .ok (.if_icmp .ge 12, 3) := by decide +kernel
theorem dX1_tell_19 : decode cX1_tell 19 = .ok (.iload_n 2, 1) := by decide +kernel
theorem dX1_tell_20 : decode cX1_tell 20 = .ok (.ifCond .lt 8, 3) := by decide +kernel
theorem dX1_tell_23 : decode cX1_tell 23 = .ok (.iload_n 2, 1) := by decide +kernel
theorem dX1_tell_24 : decode cX1_tell 24 = .ok (.iconst 5, 1) := by decide +kernel
theorem dX1_tell_25 : decode cX1_tell 25 = .ok (.if_icmp .lt 5, 3) := by decide +kernel
theorem dX1_tell_28 : decode cX1_tell 28 = .ok (.iconst (-1), 1) := by decide +kernel
theorem dX1_tell_29 : decode cX1_tell 29 = .ok (.ireturn, 1) := by decide +kernel
theorem dX1_tell_30 : decode cX1_tell 30 = .ok (.aload_n 0, 1) := by decide +kernel
theorem dX1_tell_31 : decode cX1_tell 31 = .ok (.getfield 22, 3) := by decide +kernel
theorem dX1_tell_34 : decode cX1_tell 34 = .ok (.iload_n 1, 1) := by decide +kernel
theorem dX1_tell_35 : decode cX1_tell 35 = .ok (.iconst 5, 1) := by decide +kernel
theorem dX1_tell_36 : decode cX1_tell 36 = .ok (.imul, 1) := by decide +kernel
theorem dX1_tell_37 : decode cX1_tell 37 = .ok (.iload_n 2, 1) := by decide +kernel
theorem dX1_tell_38 : decode cX1_tell 38 = .ok (.iadd, 1) := by decide +kernel
theorem dX1_tell_39 : decode cX1_tell 39 = .ok (.iaload, 1) := by decide +kernel
theorem dX1_tell_40 : decode cX1_tell 40 = .ok (.ireturn, 1) := by decide +kernel
theorem dX2_init_0 : decode cX2_init 0 = .ok (.aload_n 0, 1) := by decide +kernel
theorem dX2_init_1 : decode cX2_init 1 = .ok (.invokespecial 3, 3) := by decide +kernel
theorem dX2_init_4 : decode cX2_init 4 = .ok (.aload_n 0, 1) := by decide +kernel
theorem dX2_init_5 : decode cX2_init 5 = .ok (.aload_n 1, 1) := by decide +kernel
theorem dX2_init_6 : decode cX2_init 6 = .ok (.putfield 9, 3) := by decide +kernel
theorem dX2_init_9 : decode cX2_init 9 = .ok (.aload_n 0, 1) := by decide +kernel
theorem dX2_init_10 : decode cX2_init 10 = .ok (.sipush 288, 3) := by decide +kernel
theorem dX2_init_13 : decode cX2_init 13 = .ok (.newarray .int, 2) := by decide +kernel
theorem dX2_init_15 : decode cX2_init 15 = .ok (.putfield 15, 3) := by decide +kernel
theorem dX2_init_18 : decode cX2_init 18 = .ok (.aload_n 0, 1) := by decide +kernel
theorem dX2_init_19 : decode cX2_init 19 = .ok (.sipush 288, 3) := by decide +kernel
theorem dX2_init_22 : decode cX2_init 22 = .ok (.newarray .int, 2) := by decide +kernel
theorem dX2_init_24 : decode cX2_init 24 = .ok (.putfield 19, 3) := by decide +kernel
theorem dX2_init_27 : decode cX2_init 27 = .ok (.aload_n 0, 1) := by decide +kernel
theorem dX2_init_28 : decode cX2_init 28 = .ok (.iconst (-1), 1) := by decide +kernel
theorem dX2_init_29 : decode cX2_init 29 = .ok (.putfield 22, 3) := by decide +kernel
theorem dX2_init_32 : decode cX2_init 32 = .ok (.return_, 1) := by decide +kernel
theorem dX2_settle_0 : decode cX2_settle 0 = .ok (.aload_n 0, 1) := by decide +kernel
theorem dX2_settle_1 : decode cX2_settle 1 = .ok (.getfield 22, 3) := by decide +kernel
theorem dX2_settle_4 : decode cX2_settle 4 = .ok (.aload_n 0, 1) := by decide +kernel
theorem dX2_settle_5 : decode cX2_settle 5 = .ok (.getfield 9, 3) := by decide +kernel
theorem dX2_settle_8 : decode cX2_settle 8 = .ok (.getfield 26, 3) := by decide +kernel
theorem dX2_settle_11 : decode cX2_settle 11 = .ok (.if_icmp .ne 4, 3) := by decide +kernel
theorem dX2_settle_14 : decode cX2_settle 14 = .ok (.return_, 1) := by decide +kernel
theorem dX2_settle_15 : decode cX2_settle 15 = .ok (.aload_n 0, 1) := by decide +kernel
theorem dX2_settle_16 : decode cX2_settle 16 = .ok (.aload_n 0, 1) := by decide +kernel
theorem dX2_settle_17 : decode cX2_settle 17 = .ok (.getfield 9, 3) := by decide +kernel
theorem dX2_settle_20 : decode cX2_settle 20 = .ok (.getfield 26, 3) := by decide +kernel
theorem dX2_settle_23 : decode cX2_settle 23 = .ok (.putfield 22, 3) := by decide +kernel
theorem dX2_settle_26 : decode cX2_settle 26 = .ok (.aload_n 0, 1) := by decide +kernel
theorem dX2_settle_27 : decode cX2_settle 27 = .ok (.iconst 0, 1) := by decide +kernel
theorem dX2_settle_28 : decode cX2_settle 28 = .ok (.putfield 29, 3) := by decide +kernel
theorem dX2_settle_31 : decode cX2_settle 31 = .ok (.iconst 0, 1) := by decide +kernel
theorem dX2_settle_32 : decode cX2_settle 32 = .ok (.istore_n 1, 1) := by decide +kernel
theorem dX2_settle_33 : decode cX2_settle 33 = .ok (.iload_n 1, 1) := by decide +kernel
theorem dX2_settle_34 : decode cX2_settle 34 = .ok (.sipush 288, 3) := by decide +kernel
theorem dX2_settle_37 : decode cX2_settle 37 = .ok (.if_icmp .ge 38, 3) := by decide +kernel
theorem dX2_settle_40 : decode cX2_settle 40 = .ok (.aload_n 0, 1) := by decide +kernel
theorem dX2_settle_41 : decode cX2_settle 41 = .ok (.getfield 9, 3) := by decide +kernel
theorem dX2_settle_44 : decode cX2_settle 44 = .ok (.iload_n 1, 1) := by decide +kernel
theorem dX2_settle_45 : decode cX2_settle 45 = .ok (.invokevirtual 32, 3) := by decide +kernel
theorem dX2_settle_48 : decode cX2_settle 48 = .ok (.astore_n 2, 1) := by decide +kernel
theorem dX2_settle_49 : decode cX2_settle 49 = .ok (.aload_n 0, 1) := by decide +kernel
theorem dX2_settle_50 : decode cX2_settle 50 = .ok (.getfield 15, 3) := by decide +kernel
theorem dX2_settle_53 : decode cX2_settle 53 = .ok (.iload_n 1, 1) := by decide +kernel
theorem dX2_settle_54 : decode cX2_settle 54 = .ok (.aload_n 2, 1) := by decide +kernel
theorem dX2_settle_55 : decode cX2_settle 55 = .ok (.ifnonnull 7, 3) := by decide +kernel
theorem dX2_settle_58 : decode cX2_settle 58 = .ok (.iconst (-1), 1) := by decide +kernel
theorem dX2_settle_59 : decode cX2_settle 59 = .ok (.goto 9, 3) := by decide +kernel
theorem dX2_settle_62 : decode cX2_settle 62 = .ok (.aload_n 0, 1) := by decide +kernel
theorem dX2_settle_63 : decode cX2_settle 63 = .ok (.iload_n 1, 1) := by decide +kernel
theorem dX2_settle_64 : decode cX2_settle 64 = .ok (.aload_n 2, 1) := by decide +kernel
theorem dX2_settle_65 : decode cX2_settle 65 = .ok (.invokevirtual 36, 3) := by decide +kernel
theorem dX2_settle_68 : decode cX2_settle 68 = .ok (.iastore, 1) := by decide +kernel
theorem dX2_settle_69 : decode cX2_settle 69 = .ok (.iinc 1 1, 3) := by decide +kernel
theorem dX2_settle_72 : decode cX2_settle 72 = .ok (.goto (-39), 3) := by decide +kernel
theorem dX2_settle_75 : decode cX2_settle 75 = .ok (.return_, 1) := by decide +kernel
theorem dX2_familyAt_0 : decode cX2_familyAt 0 = .ok (.iload_n 1, 1) := by decide +kernel
theorem dX2_familyAt_1 : decode cX2_familyAt 1 = .ok (.invokestatic 46, 3) := by decide +kernel
theorem dX2_familyAt_4 : decode cX2_familyAt 4 = .ok (.ifCond .eq 12, 3) := by decide +kernel
theorem dX2_familyAt_7 : decode cX2_familyAt 7 = .ok (.aload_n 0, 1) := by decide +kernel
theorem dX2_familyAt_8 : decode cX2_familyAt 8 = .ok (.getfield 15, 3) := by decide +kernel
theorem dX2_familyAt_11 : decode cX2_familyAt 11 = .ok (.iload_n 1, 1) := by decide +kernel
theorem dX2_familyAt_12 : decode cX2_familyAt 12 = .ok (.iaload, 1) := by decide +kernel
theorem dX2_familyAt_13 : decode cX2_familyAt 13 = .ok (.goto 4, 3) := by decide +kernel
theorem dX2_familyAt_16 : decode cX2_familyAt 16 = .ok (.iconst (-1), 1) := by decide +kernel
theorem dX2_familyAt_17 : decode cX2_familyAt 17 = .ok (.ireturn, 1) := by decide +kernel
theorem dX2_neighbourToCopy_0 : decode cX2_neighbourToCopy 0 = .ok (.aload_n 0, 1) := by decide +kernel
theorem dX2_neighbourToCopy_1 : decode cX2_neighbourToCopy 1 = .ok (.getfield 9, 3) := by decide +kernel
theorem dX2_neighbourToCopy_4 : decode cX2_neighbourToCopy 4 = .ok (.iload_n 1, 1) := by decide +kernel
theorem dX2_neighbourToCopy_5 : decode cX2_neighbourToCopy 5 = .ok (.invokevirtual 50, 3) := by decide +kernel
theorem dX2_neighbourToCopy_8 : decode cX2_neighbourToCopy 8 = .ok (.ifCond .ne 5, 3) := by decide +kernel
theorem dX2_neighbourToCopy_11 : decode cX2_neighbourToCopy 11 = .ok (.iconst (-1), 1) := by decide +kernel
theorem dX2_neighbourToCopy_12 : decode cX2_neighbourToCopy 12 = .ok (.ireturn, 1) := by decide +kernel
theorem dX2_neighbourToCopy_13 : decode cX2_neighbourToCopy 13 = .ok (.iload_n 1, 1) := by decide +kernel
theorem dX2_neighbourToCopy_14 : decode cX2_neighbourToCopy 14 = .ok (.bipush 12, 2) := by decide +kernel
theorem dX2_neighbourToCopy_16 : decode cX2_neighbourToCopy 16 = .ok (.irem, 1) := by decide +kernel
theorem dX2_neighbourToCopy_17 : decode cX2_neighbourToCopy 17 = .ok (.istore_n 2, 1) := by decide +kernel
theorem dX2_neighbourToCopy_18 : decode cX2_neighbourToCopy 18 = .ok (.iload_n 2, 1) := by decide +kernel
theorem dX2_neighbourToCopy_19 : decode cX2_neighbourToCopy 19 = .ok (.ifCond .le 27, 3) := by decide +kernel
theorem dX2_neighbourToCopy_22 : decode cX2_neighbourToCopy 22 = .ok (.iload_n 2, 1) := by decide +kernel
theorem dX2_neighbourToCopy_23 : decode cX2_neighbourToCopy 23 = .ok (.bipush 11, 2) := by decide +kernel
theorem dX2_neighbourToCopy_25 : decode cX2_neighbourToCopy 25 = .ok (.if_icmp .ge 21, 3) := by decide +kernel
theorem dX2_neighbourToCopy_28 : decode cX2_neighbourToCopy 28 = .ok (.aload_n 0, 1) := by decide +kernel
theorem dX2_neighbourToCopy_29 : decode cX2_neighbourToCopy 29 = .ok (.iload_n 1, 1) := by decide +kernel
theorem dX2_neighbourToCopy_30 : decode cX2_neighbourToCopy 30 = .ok (.iload_n 1, 1) := by decide +kernel
theorem dX2_neighbourToCopy_31 : decode cX2_neighbourToCopy 31 = .ok (.iconst 1, 1) := by decide +kernel
theorem dX2_neighbourToCopy_32 : decode cX2_neighbourToCopy 32 = .ok (.isub, 1) := by decide +kernel
theorem dX2_neighbourToCopy_33 : decode cX2_neighbourToCopy 33 = .ok (.iload_n 1, 1) := by decide +kernel
theorem dX2_neighbourToCopy_34 : decode cX2_neighbourToCopy 34 = .ok (.iconst 1, 1) := by decide +kernel
theorem dX2_neighbourToCopy_35 : decode cX2_neighbourToCopy 35 = .ok (.iadd, 1) := by decide +kernel
theorem dX2_neighbourToCopy_36 : decode cX2_neighbourToCopy 36 = .ok (.invokevirtual 54, 3) := by decide +kernel
theorem dX2_neighbourToCopy_39 : decode cX2_neighbourToCopy 39 = .ok (.ifCond .eq 7, 3) := by decide +kernel
theorem dX2_neighbourToCopy_42 : decode cX2_neighbourToCopy 42 = .ok (.iload_n 1, 1) := by decide +kernel
theorem dX2_neighbourToCopy_43 : decode cX2_neighbourToCopy 43 = .ok (.iconst 1, 1) := by decide +kernel
theorem dX2_neighbourToCopy_44 : decode cX2_neighbourToCopy 44 = .ok (.isub, 1) := by decide +kernel
theorem dX2_neighbourToCopy_45 : decode cX2_neighbourToCopy 45 = .ok (.ireturn, 1) := by decide +kernel
theorem dX2_neighbourToCopy_46 : decode cX2_neighbourToCopy 46 = .ok (.aload_n 0, 1) := by decide +kernel
theorem dX2_neighbourToCopy_47 : decode cX2_neighbourToCopy 47 = .ok (.iload_n 1, 1) := by decide +kernel
theorem dX2_neighbourToCopy_48 : decode cX2_neighbourToCopy 48 = .ok (.iload_n 1, 1) := by decide +kernel
theorem dX2_neighbourToCopy_49 : decode cX2_neighbourToCopy 49 = .ok (.bipush 12, 2) := by decide +kernel
theorem dX2_neighbourToCopy_51 : decode cX2_neighbourToCopy 51 = .ok (.isub, 1) := by decide +kernel
theorem dX2_neighbourToCopy_52 : decode cX2_neighbourToCopy 52 = .ok (.iload_n 1, 1) := by decide +kernel
theorem dX2_neighbourToCopy_53 : decode cX2_neighbourToCopy 53 = .ok (.bipush 12, 2) := by decide +kernel
theorem dX2_neighbourToCopy_55 : decode cX2_neighbourToCopy 55 = .ok (.iadd, 1) := by decide +kernel
theorem dX2_neighbourToCopy_56 : decode cX2_neighbourToCopy 56 = .ok (.invokevirtual 54, 3) := by decide +kernel
theorem dX2_neighbourToCopy_59 : decode cX2_neighbourToCopy 59 = .ok (.ifCond .eq 10, 3) := by decide +kernel
theorem dX2_neighbourToCopy_62 : decode cX2_neighbourToCopy 62 = .ok (.iload_n 1, 1) := by decide +kernel
theorem dX2_neighbourToCopy_63 : decode cX2_neighbourToCopy 63 = .ok (.bipush 12, 2) := by decide +kernel
theorem dX2_neighbourToCopy_65 : decode cX2_neighbourToCopy 65 = .ok (.isub, 1) := by decide +kernel
theorem dX2_neighbourToCopy_66 : decode cX2_neighbourToCopy 66 = .ok (.goto 4, 3) := by decide +kernel
theorem dX2_neighbourToCopy_69 : decode cX2_neighbourToCopy 69 = .ok (.iconst (-1), 1) := by decide +kernel
theorem dX2_neighbourToCopy_70 : decode cX2_neighbourToCopy 70 = .ok (.ireturn, 1) := by decide +kernel
theorem dX3_init_0 : decode cX3_init 0 = .ok (.aload_n 0, 1) := by decide +kernel
theorem dX3_init_1 : decode cX3_init 1 = .ok (.invokespecial 3, 3) := by decide +kernel
theorem dX3_init_4 : decode cX3_init 4 = .ok (.aload_n 0, 1) := by decide +kernel
theorem dX3_init_5 : decode cX3_init 5 = .ok (.aload_n 1, 1) := by decide +kernel
theorem dX3_init_6 : decode cX3_init 6 = .ok (.putfield 9, 3) := by decide +kernel
theorem dX3_init_9 : decode cX3_init 9 = .ok (.aload_n 0, 1) := by decide +kernel
theorem dX3_init_10 : decode cX3_init 10 = .ok (.aload_n 2, 1) := by decide +kernel
theorem dX3_init_11 : decode cX3_init 11 = .ok (.putfield 15, 3) := by decide +kernel
theorem dX3_init_14 : decode cX3_init 14 = .ok (.aload_n 0, 1) := by decide +kernel
theorem dX3_init_15 : decode cX3_init 15 = .ok (.aload_n 3, 1) := by decide +kernel
theorem dX3_init_16 : decode cX3_init 16 = .ok (.putfield 19, 3) := by decide +kernel
theorem dX3_init_19 : decode cX3_init 19 = .ok (.aload_n 0, 1) := by decide +kernel
theorem dX3_init_20 : decode cX3_init 20 = .ok (.aload 4, 2) := by decide +kernel
theorem dX3_init_22 : decode cX3_init 22 = .ok (.putfield 23, 3) := by decide +kernel
theorem dX3_init_25 : decode cX3_init 25 = .ok (.aload_n 0, 1) := by decide +kernel
theorem dX3_init_26 : decode cX3_init 26 = .ok (.aload 5, 2) := by decide +kernel
theorem dX3_init_28 : decode cX3_init 28 = .ok (.putfield 27, 3) := by decide +kernel
theorem dX3_init_31 : decode cX3_init 31 = .ok (.aload_n 0, 1) := by decide +kernel
theorem dX3_init_32 : decode cX3_init 32 = .ok (.sipush 900, 3) := by decide +kernel
theorem dX3_init_35 : decode cX3_init 35 = .ok (.newarray .int, 2) := by decide +kernel
theorem dX3_init_37 : decode cX3_init 37 = .ok (.putfield 31, 3) := by decide +kernel
theorem dX3_init_40 : decode cX3_init 40 = .ok (.aload_n 0, 1) := by decide +kernel
theorem dX3_init_41 : decode cX3_init 41 = .ok (.iconst 0, 1) := by decide +kernel
theorem dX3_init_42 : decode cX3_init 42 = .ok (.putfield 35, 3) := by decide +kernel
theorem dX3_init_45 : decode cX3_init 45 = .ok (.return_, 1) := by decide +kernel
theorem dX3_gather_0 : decode cX3_gather 0 = .ok (.aload_n 0, 1) := by decide +kernel
theorem dX3_gather_1 : decode cX3_gather 1 = .ok (.iconst 0, 1) := by decide +kernel
theorem dX3_gather_2 : decode cX3_gather 2 = .ok (.putfield 35, 3) := by decide +kernel
theorem dX3_gather_5 : decode cX3_gather 5 = .ok (.aload_n 0, 1) := by decide +kernel
theorem dX3_gather_6 : decode cX3_gather 6 = .ok (.getfield 27, 3) := by decide +kernel
theorem dX3_gather_9 : decode cX3_gather 9 = .ok (.invokevirtual 39, 3) := by decide +kernel
theorem dX3_gather_12 : decode cX3_gather 12 = .ok (.iconst 0, 1) := by decide +kernel
theorem dX3_gather_13 : decode cX3_gather 13 = .ok (.istore_n 1, 1) := by decide +kernel
theorem dX3_gather_14 : decode cX3_gather 14 = .ok (.iload_n 1, 1) := by decide +kernel
theorem dX3_gather_15 : decode cX3_gather 15 = .ok (.sipush 288, 3) := by decide +kernel
theorem dX3_gather_18 : decode cX3_gather 18 = .ok (.if_icmp .ge 25, 3) := by decide +kernel
theorem dX3_gather_21 : decode cX3_gather 21 = .ok (.aload_n 0, 1) := by decide +kernel
theorem dX3_gather_22 : decode cX3_gather 22 = .ok (.getfield 9, 3) := by decide +kernel
theorem dX3_gather_25 : decode cX3_gather 25 = .ok (.iload_n 1, 1) := by decide +kernel
theorem dX3_gather_26 : decode cX3_gather 26 = .ok (.invokevirtual 44, 3) := by decide +kernel
theorem dX3_gather_29 : decode cX3_gather 29 = .ok (.ifCond .eq 8, 3) := by decide +kernel
theorem dX3_gather_32 : decode cX3_gather 32 = .ok (.aload_n 0, 1) := by decide +kernel
theorem dX3_gather_33 : decode cX3_gather 33 = .ok (.iload_n 1, 1) := by decide +kernel
theorem dX3_gather_34 : decode cX3_gather 34 = .ok (.invokevirtual 50, 3) := by decide +kernel
theorem dX3_gather_37 : decode cX3_gather 37 = .ok (.iinc 1 1, 3) := by decide +kernel
theorem dX3_gather_40 : decode cX3_gather 40 = .ok (.goto (-26), 3) := by decide +kernel
theorem dX3_gather_43 : decode cX3_gather 43 = .ok (.aload_n 0, 1) := by decide +kernel
theorem dX3_gather_44 : decode cX3_gather 44 = .ok (.getfield 35, 3) := by decide +kernel
theorem dX3_gather_47 : decode cX3_gather 47 = .ok (.ireturn, 1) := by decide +kernel
theorem dX3_tell_0 : decode cX3_tell 0 = .ok (.iload_n 1, 1) := by decide +kernel
theorem dX3_tell_1 : decode cX3_tell 1 = .ok (.ifCond .lt 27, 3) := by decide +kernel
theorem dX3_tell_4 : decode cX3_tell 4 = .ok (.iload_n 1, 1) := by decide +kernel
theorem dX3_tell_5 : decode cX3_tell 5 = .ok (.aload_n 0, 1) := by decide +kernel
theorem dX3_tell_6 : decode cX3_tell 6 = .ok (.getfield 35, 3) := by decide +kernel
theorem dX3_tell_9 : decode cX3_tell 9 = .ok (.if_icmp .ge 19, 3) := by decide +kernel
theorem dX3_tell_12 : decode cX3_tell 12 = .ok (.iload_n 1, 1) := by decide +kernel
theorem dX3_tell_13 : decode cX3_tell 13 = .ok (.sipush 300, 3) := by decide +kernel
theorem dX3_tell_16 : decode cX3_tell 16 = .ok (.if_icmp .ge 12, 3) := by decide +kernel
theorem dX3_tell_19 : decode cX3_tell 19 = .ok (.iload_n 2, 1) := by decide +kernel
theorem dX3_tell_20 : decode cX3_tell 20 = .ok (.ifCond .lt 8, 3) := by decide +kernel
theorem dX3_tell_23 : decode cX3_tell 23 = .ok (.iload_n 2, 1) := by decide +kernel
theorem dX3_tell_24 : decode cX3_tell 24 = .ok (.iconst 3, 1) := by decide +kernel
theorem dX3_tell_25 : decode cX3_tell 25 = .ok (.if_icmp .lt 5, 3) := by decide +kernel
theorem dX3_tell_28 : decode cX3_tell 28 = .ok (.iconst (-1), 1) := by decide +kernel
theorem dX3_tell_29 : decode cX3_tell 29 = .ok (.ireturn, 1) := by decide +kernel
theorem dX3_tell_30 : decode cX3_tell 30 = .ok (.aload_n 0, 1) := by decide +kernel
theorem dX3_tell_31 : decode cX3_tell 31 = .ok (.getfield 31, 3) := by decide +kernel
theorem dX3_tell_34 : decode cX3_tell 34 = .ok (.iload_n 1, 1) := by decide +kernel
theorem dX3_tell_35 : decode cX3_tell 35 = .ok (.iconst 3, 1) := by decide +kernel
theorem dX3_tell_36 : decode cX3_tell 36 = .ok (.imul, 1) := by decide +kernel
theorem dX3_tell_37 : decode cX3_tell 37 = .ok (.iload_n 2, 1) := by decide +kernel
theorem dX3_tell_38 : decode cX3_tell 38 = .ok (.iadd, 1) := by decide +kernel
theorem dX3_tell_39 : decode cX3_tell 39 = .ok (.iaload, 1) := by decide +kernel
theorem dX3_tell_40 : decode cX3_tell 40 = .ok (.ireturn, 1) := by decide +kernel
theorem dX5_init_0 : decode cX5_init 0 = .ok (.aload_n 0, 1) := by decide +kernel
theorem dX5_init_1 : decode cX5_init 1 = .ok (.invokespecial 3, 3) := by decide +kernel
theorem dX5_init_4 : decode cX5_init 4 = .ok (.aload_n 0, 1) := by decide +kernel
theorem dX5_init_5 : decode cX5_init 5 = .ok (.aload_n 1, 1) := by decide +kernel
theorem dX5_init_6 : decode cX5_init 6 = .ok (.putfield 9, 3) := by decide +kernel
theorem dX5_init_9 : decode cX5_init 9 = .ok (.aload_n 0, 1) := by decide +kernel
theorem dX5_init_10 : decode cX5_init 10 = .ok (.sipush 288, 3) := by decide +kernel
theorem dX5_init_13 : decode cX5_init 13 = .ok (.newarray .int, 2) := by decide +kernel
theorem dX5_init_15 : decode cX5_init 15 = .ok (.putfield 15, 3) := by decide +kernel
theorem dX5_init_18 : decode cX5_init 18 = .ok (.aload_n 0, 1) := by decide +kernel
theorem dX5_init_19 : decode cX5_init 19 = .ok (.iconst 5, 1) := by decide +kernel
theorem dX5_init_20 : decode cX5_init 20 = .ok (.newarray .long, 2) := by decide +kernel
theorem dX5_init_22 : decode cX5_init 22 = .ok (.putfield 19, 3) := by decide +kernel
theorem dX5_init_25 : decode cX5_init 25 = .ok (.aload_n 0, 1) := by decide +kernel
theorem dX5_init_26 : decode cX5_init 26 = .ok (.sipush 1440, 3) := by decide +kernel
theorem dX5_init_29 : decode cX5_init 29 = .ok (.newarray .long, 2) := by decide +kernel
theorem dX5_init_31 : decode cX5_init 31 = .ok (.putfield 23, 3) := by decide +kernel
theorem dX5_init_34 : decode cX5_init 34 = .ok (.aload_n 0, 1) := by decide +kernel
theorem dX5_init_35 : decode cX5_init 35 = .ok (.sipush 1440, 3) := by decide +kernel
theorem dX5_init_38 : decode cX5_init 38 = .ok (.newarray .long, 2) := by decide +kernel
theorem dX5_init_40 : decode cX5_init 40 = .ok (.putfield 26, 3) := by decide +kernel
theorem dX5_init_43 : decode cX5_init 43 = .ok (.aload_n 0, 1) := by decide +kernel
theorem dX5_init_44 : decode cX5_init 44 = .ok (.sipush 288, 3) := by decide +kernel
theorem dX5_init_47 : decode cX5_init 47 = .ok (.newarray .boolean, 2) := by decide +kernel
theorem dX5_init_49 : decode cX5_init 49 = .ok (.putfield 29, 3) := by decide +kernel
theorem dX5_init_52 : decode cX5_init 52 = .ok (.aload_n 0, 1) := by decide +kernel
theorem dX5_init_53 : decode cX5_init 53 = .ok (.sipush 288, 3) := by decide +kernel
theorem dX5_init_56 : decode cX5_init 56 = .ok (.newarray .int, 2) := by decide +kernel
theorem dX5_init_58 : decode cX5_init 58 = .ok (.putfield 33, 3) := by decide +kernel
theorem dX5_init_61 : decode cX5_init 61 = .ok (.aload_n 0, 1) := by decide +kernel
theorem dX5_init_62 : decode cX5_init 62 = .ok (.sipush 288, 3) := by decide +kernel
theorem dX5_init_65 : decode cX5_init 65 = .ok (.newarray .int, 2) := by decide +kernel
theorem dX5_init_67 : decode cX5_init 67 = .ok (.putfield 36, 3) := by decide +kernel
theorem dX5_init_70 : decode cX5_init 70 = .ok (.aload_n 0, 1) := by decide +kernel
theorem dX5_init_71 : decode cX5_init 71 = .ok (.sipush 288, 3) := by decide +kernel
theorem dX5_init_74 : decode cX5_init 74 = .ok (.newarray .int, 2) := by decide +kernel
theorem dX5_init_76 : decode cX5_init 76 = .ok (.putfield 39, 3) := by decide +kernel
theorem dX5_init_79 : decode cX5_init 79 = .ok (.aload_n 0, 1) := by decide +kernel
theorem dX5_init_80 : decode cX5_init 80 = .ok (.iconst (-1), 1) := by decide +kernel
theorem dX5_init_81 : decode cX5_init 81 = .ok (.putfield 42, 3) := by decide +kernel
theorem dX5_init_84 : decode cX5_init 84 = .ok (.return_, 1) := by decide +kernel
theorem dX5_settle_0 : decode cX5_settle 0 = .ok (.aload_n 0, 1) := by decide +kernel
theorem dX5_settle_1 : decode cX5_settle 1 = .ok (.getfield 42, 3) := by decide +kernel
theorem dX5_settle_4 : decode cX5_settle 4 = .ok (.aload_n 0, 1) := by decide +kernel
theorem dX5_settle_5 : decode cX5_settle 5 = .ok (.getfield 9, 3) := by decide +kernel
theorem dX5_settle_8 : decode cX5_settle 8 = .ok (.getfield 46, 3) := by decide +kernel
theorem dX5_settle_11 : decode cX5_settle 11 = .ok (.if_icmp .ne 4, 3) := by decide +kernel
theorem dX5_settle_14 : decode cX5_settle 14 = .ok (.return_, 1) := by decide +kernel
theorem dX5_settle_15 : decode cX5_settle 15 = .ok (.aload_n 0, 1) := by decide +kernel
theorem dX5_settle_16 : decode cX5_settle 16 = .ok (.aload_n 0, 1) := by decide +kernel
theorem dX5_settle_17 : decode cX5_settle 17 = .ok (.getfield 9, 3) := by decide +kernel
theorem dX5_settle_20 : decode cX5_settle 20 = .ok (.getfield 46, 3) := by decide +kernel
theorem dX5_settle_23 : decode cX5_settle 23 = .ok (.putfield 42, 3) := by decide +kernel
theorem dX5_settle_26 : decode cX5_settle 26 = .ok (.aload_n 0, 1) := by decide +kernel
theorem dX5_settle_27 : decode cX5_settle 27 = .ok (.invokevirtual 49, 3) := by decide +kernel
theorem dX5_settle_30 : decode cX5_settle 30 = .ok (.aload_n 0, 1) := by decide +kernel
theorem dX5_settle_31 : decode cX5_settle 31 = .ok (.invokevirtual 52, 3) := by decide +kernel
theorem dX5_settle_34 : decode cX5_settle 34 = .ok (.aload_n 0, 1) := by decide +kernel
theorem dX5_settle_35 : decode cX5_settle 35 = .ok (.iconst 0, 1) := by decide +kernel
theorem dX5_settle_36 : decode cX5_settle 36 = .ok (.putfield 55, 3) := by decide +kernel
theorem dX5_settle_39 : decode cX5_settle 39 = .ok (.iconst 0, 1) := by decide +kernel
theorem dX5_settle_40 : decode cX5_settle 40 = .ok (.istore_n 1, 1) := by decide +kernel
theorem dX5_settle_41 : decode cX5_settle 41 = .ok (.iload_n 1, 1) := by decide +kernel
theorem dX5_settle_42 : decode cX5_settle 42 = .ok (.aload_n 0, 1) := by decide +kernel
theorem dX5_settle_43 : decode cX5_settle 43 = .ok (.getfield 58, 3) := by decide +kernel
theorem dX5_settle_46 : decode cX5_settle 46 = .ok (.if_icmp .ge 41, 3) := by decide +kernel
theorem dX5_settle_49 : decode cX5_settle 49 = .ok (.aload_n 0, 1) := by decide +kernel
theorem dX5_settle_50 : decode cX5_settle 50 = .ok (.getfield 15, 3) := by decide +kernel
theorem dX5_settle_53 : decode cX5_settle 53 = .ok (.iload_n 1, 1) := by decide +kernel
theorem dX5_settle_54 : decode cX5_settle 54 = .ok (.iaload, 1) := by decide +kernel
theorem dX5_settle_55 : decode cX5_settle 55 = .ok (.istore_n 2, 1) := by decide +kernel
theorem dX5_settle_56 : decode cX5_settle 56 = .ok (.aload_n 0, 1) := by decide +kernel
theorem dX5_settle_57 : decode cX5_settle 57 = .ok (.getfield 33, 3) := by decide +kernel
theorem dX5_settle_60 : decode cX5_settle 60 = .ok (.iload_n 2, 1) := by decide +kernel
theorem dX5_settle_61 : decode cX5_settle 61 = .ok (.aload_n 0, 1) := by decide +kernel
theorem dX5_settle_62 : decode cX5_settle 62 = .ok (.iload_n 2, 1) := by decide +kernel
theorem dX5_settle_63 : decode cX5_settle 63 = .ok (.invokevirtual 61, 3) := by decide +kernel
theorem dX5_settle_66 : decode cX5_settle 66 = .ok (.iastore, 1) := by decide +kernel
theorem dX5_settle_67 : decode cX5_settle 67 = .ok (.aload_n 0, 1) := by decide +kernel
theorem dX5_settle_68 : decode cX5_settle 68 = .ok (.getfield 33, 3) := by decide +kernel
theorem dX5_settle_71 : decode cX5_settle 71 = .ok (.iload_n 2, 1) := by decide +kernel
theorem dX5_settle_72 : decode cX5_settle 72 = .ok (.iaload, 1) := by decide +kernel
theorem dX5_settle_73 : decode cX5_settle 73 = .ok (.ifCond .ne 8, 3) := by decide +kernel
theorem dX5_settle_76 : decode cX5_settle 76 = .ok (.aload_n 0, 1) := by decide +kernel
theorem dX5_settle_77 : decode cX5_settle 77 = .ok (.iload_n 2, 1) := by decide +kernel
theorem dX5_settle_78 : decode cX5_settle 78 = .ok (.invokevirtual 65, 3) := by decide +kernel
theorem dX5_settle_81 : decode cX5_settle 81 = .ok (.iinc 1 1, 3) := by decide +kernel
theorem dX5_settle_84 : decode cX5_settle 84 = .ok (.goto (-43), 3) := by decide +kernel
theorem dX5_settle_87 : decode cX5_settle 87 = .ok (.aload_n 0, 1) := by decide +kernel
theorem dX5_settle_88 : decode cX5_settle 88 = .ok (.iconst 0, 1) := by decide +kernel
theorem dX5_settle_89 : decode cX5_settle 89 = .ok (.invokevirtual 69, 3) := by decide +kernel
theorem dX5_settle_92 : decode cX5_settle 92 = .ok (.aload_n 0, 1) := by decide +kernel
theorem dX5_settle_93 : decode cX5_settle 93 = .ok (.getfield 55, 3) := by decide +kernel
theorem dX5_settle_96 : decode cX5_settle 96 = .ok (.aload_n 0, 1) := by decide +kernel
theorem dX5_settle_97 : decode cX5_settle 97 = .ok (.getfield 58, 3) := by decide +kernel
theorem dX5_settle_100 : decode cX5_settle 100 = .ok (.if_icmp .ge 17, 3) := by decide +kernel
theorem dX5_settle_103 : decode cX5_settle 103 = .ok (.aload_n 0, 1) := by decide +kernel
theorem dX5_settle_104 : decode cX5_settle 104 = .ok (.getfield 55, 3) := by decide +kernel
theorem dX5_settle_107 : decode cX5_settle 107 = .ok (.istore_n 1, 1) := by decide +kernel
theorem dX5_settle_108 : decode cX5_settle 108 = .ok (.aload_n 0, 1) := by decide +kernel
theorem dX5_settle_109 : decode cX5_settle 109 = .ok (.invokevirtual 72, 3) := by decide +kernel
theorem dX5_settle_112 : decode cX5_settle 112 = .ok (.aload_n 0, 1) := by decide +kernel
theorem dX5_settle_113 : decode cX5_settle 113 = .ok (.iload_n 1, 1) := by decide +kernel
theorem dX5_settle_114 : decode cX5_settle 114 = .ok (.invokevirtual 69, 3) := by decide +kernel
theorem dX5_settle_117 : decode cX5_settle 117 = .ok (.return_, 1) := by decide +kernel
theorem dX5_orderSize_0 : decode cX5_orderSize 0 = .ok (.aload_n 0, 1) := by decide +kernel
theorem dX5_orderSize_1 : decode cX5_orderSize 1 = .ok (.getfield 55, 3) := by decide +kernel
theorem dX5_orderSize_4 : decode cX5_orderSize 4 = .ok (.ireturn, 1) := by decide +kernel
theorem dX5_cellsReadBy_0 : decode cX5_cellsReadBy 0 = .ok (.iconst 0, 1) := by decide +kernel
theorem dX5_cellsReadBy_1 : decode cX5_cellsReadBy 1 = .ok (.istore_n 2, 1) := by decide +kernel
theorem dX5_cellsReadBy_2 : decode cX5_cellsReadBy 2 = .ok (.iload_n 1, 1) := by decide +kernel
theorem dX5_cellsReadBy_3 : decode cX5_cellsReadBy 3 = .ok (.invokestatic 75, 3) := by decide +kernel
theorem dX5_cellsReadBy_6 : decode cX5_cellsReadBy 6 = .ok (.ifCond .eq 32, 3) := by decide +kernel
theorem dX5_cellsReadBy_9 : decode cX5_cellsReadBy 9 = .ok (.iconst 0, 1) := by decide +kernel
theorem dX5_cellsReadBy_10 : decode cX5_cellsReadBy 10 = .ok (.istore_n 3, 1) := by decide +kernel
theorem dX5_cellsReadBy_11 : decode cX5_cellsReadBy 11 = .ok (.iload_n 3, 1) := by decide +kernel
theorem dX5_cellsReadBy_12 : decode cX5_cellsReadBy 12 = .ok (.iconst 5, 1) := by decide +kernel
theorem dX5_cellsReadBy_13 : decode cX5_cellsReadBy 13 = .ok (.if_icmp .ge 25, 3) := by decide +kernel
theorem dX5_cellsReadBy_16 : decode cX5_cellsReadBy 16 = .ok (.iload_n 2, 1) := by decide +kernel
theorem dX5_cellsReadBy_17 : decode cX5_cellsReadBy 17 = .ok (.aload_n 0, 1) := by decide +kernel
theorem dX5_cellsReadBy_18 : decode cX5_cellsReadBy 18 = .ok (.getfield 23, 3) := by decide +kernel
theorem dX5_cellsReadBy_21 : decode cX5_cellsReadBy 21 = .ok (.iload_n 1, 1) := by decide +kernel
theorem dX5_cellsReadBy_22 : decode cX5_cellsReadBy 22 = .ok (.iconst 5, 1) := by decide +kernel
theorem dX5_cellsReadBy_23 : decode cX5_cellsReadBy 23 = .ok (.imul, 1) := by decide +kernel
theorem dX5_cellsReadBy_24 : decode cX5_cellsReadBy 24 = .ok (.iload_n 3, 1) := by decide +kernel
theorem dX5_cellsReadBy_25 : decode cX5_cellsReadBy 25 = .ok (.iadd, 1) := by decide +kernel
theorem dX5_cellsReadBy_26 : decode cX5_cellsReadBy 26 = .ok (.laload, 1) := by decide +kernel
theorem dX5_cellsReadBy_27 : decode cX5_cellsReadBy 27 = .ok (.invokestatic 79, 3) := by decide +kernel
theorem dX5_cellsReadBy_30 : decode cX5_cellsReadBy 30 = .ok (.iadd, 1) := by decide +kernel
theorem dX5_cellsReadBy_31 : decode cX5_cellsReadBy 31 = .ok (.istore_n 2, 1) := by decide +kernel
theorem dX5_cellsReadBy_32 : decode cX5_cellsReadBy 32 = .ok (.iinc 3 1, 3) := by decide +kernel
theorem dX5_cellsReadBy_35 : decode cX5_cellsReadBy 35 = .ok (.goto (-24), 3) := by decide +kernel
theorem dX5_cellsReadBy_38 : decode cX5_cellsReadBy 38 = .ok (.iload_n 2, 1) := by decide +kernel
theorem dX5_cellsReadBy_39 : decode cX5_cellsReadBy 39 = .ok (.ireturn, 1) := by decide +kernel
theorem dX5_readersOf_0 : decode cX5_readersOf 0 = .ok (.iconst 0, 1) := by decide +kernel
theorem dX5_readersOf_1 : decode cX5_readersOf 1 = .ok (.istore_n 2, 1) := by decide +kernel
theorem dX5_readersOf_2 : decode cX5_readersOf 2 = .ok (.iconst 0, 1) := by decide +kernel
theorem dX5_readersOf_3 : decode cX5_readersOf 3 = .ok (.istore_n 3, 1) := by decide +kernel
theorem dX5_readersOf_4 : decode cX5_readersOf 4 = .ok (.iload_n 3, 1) := by decide +kernel
theorem dX5_readersOf_5 : decode cX5_readersOf 5 = .ok (.aload_n 0, 1) := by decide +kernel
theorem dX5_readersOf_6 : decode cX5_readersOf 6 = .ok (.getfield 58, 3) := by decide +kernel
theorem dX5_readersOf_9 : decode cX5_readersOf 9 = .ok (.if_icmp .ge 29, 3) := by decide +kernel
theorem dX5_readersOf_12 : decode cX5_readersOf 12 = .ok (.aload_n 0, 1) := by decide +kernel
theorem dX5_readersOf_13 : decode cX5_readersOf 13 = .ok (.getfield 23, 3) := by decide +kernel
theorem dX5_readersOf_16 : decode cX5_readersOf 16 = .ok (.aload_n 0, 1) := by decide +kernel
theorem dX5_readersOf_17 : decode cX5_readersOf 17 = .ok (.getfield 15, 3) := by decide +kernel
theorem dX5_readersOf_20 : decode cX5_readersOf 20 = .ok (.iload_n 3, 1) := by decide +kernel
theorem dX5_readersOf_21 : decode cX5_readersOf 21 = .ok (.iaload, 1) := by decide +kernel
theorem dX5_readersOf_22 : decode cX5_readersOf 22 = .ok (.iload_n 1, 1) := by decide +kernel
theorem dX5_readersOf_23 : decode cX5_readersOf 23 = .ok (.invokestatic 85, 3) := by decide +kernel
theorem dX5_readersOf_26 : decode cX5_readersOf 26 = .ok (.ifCond .eq 6, 3) := by decide +kernel
theorem dX5_readersOf_29 : decode cX5_readersOf 29 = .ok (.iinc 2 1, 3) := by decide +kernel
theorem dX5_readersOf_32 : decode cX5_readersOf 32 = .ok (.iinc 3 1, 3) := by decide +kernel
theorem dX5_readersOf_35 : decode cX5_readersOf 35 = .ok (.goto (-31), 3) := by decide +kernel
theorem dX5_readersOf_38 : decode cX5_readersOf 38 = .ok (.iload_n 2, 1) := by decide +kernel
theorem dX5_readersOf_39 : decode cX5_readersOf 39 = .ok (.ireturn, 1) := by decide +kernel
theorem dX5_forgetReads_0 : decode cX5_forgetReads 0 = .ok (.iconst 0, 1) := by decide +kernel
theorem dX5_forgetReads_1 : decode cX5_forgetReads 1 = .ok (.istore_n 1, 1) := by decide +kernel
theorem dX5_forgetReads_2 : decode cX5_forgetReads 2 = .ok (.iload_n 1, 1) := by decide +kernel
theorem dX5_forgetReads_3 : decode cX5_forgetReads 3 = .ok (.aload_n 0, 1) := by decide +kernel
theorem dX5_forgetReads_4 : decode cX5_forgetReads 4 = .ok (.getfield 58, 3) := by decide +kernel
theorem dX5_forgetReads_7 : decode cX5_forgetReads 7 = .ok (.if_icmp .ge 38, 3) := by decide +kernel
theorem dX5_forgetReads_10 : decode cX5_forgetReads 10 = .ok (.iconst 0, 1) := by decide +kernel
theorem dX5_forgetReads_11 : decode cX5_forgetReads 11 = .ok (.istore_n 2, 1) := by decide +kernel
theorem dX5_forgetReads_12 : decode cX5_forgetReads 12 = .ok (.iload_n 2, 1) := by decide +kernel
theorem dX5_forgetReads_13 : decode cX5_forgetReads 13 = .ok (.iconst 5, 1) := by decide +kernel
theorem dX5_forgetReads_14 : decode cX5_forgetReads 14 = .ok (.if_icmp .ge 25, 3) := by decide +kernel
theorem dX5_forgetReads_17 : decode cX5_forgetReads 17 = .ok (.aload_n 0, 1) := by decide +kernel
theorem dX5_forgetReads_18 : decode cX5_forgetReads 18 = .ok (.getfield 23, 3) := by decide +kernel
theorem dX5_forgetReads_21 : decode cX5_forgetReads 21 = .ok (.aload_n 0, 1) := by decide +kernel
theorem dX5_forgetReads_22 : decode cX5_forgetReads 22 = .ok (.getfield 15, 3) := by decide +kernel
theorem dX5_forgetReads_25 : decode cX5_forgetReads 25 = .ok (.iload_n 1, 1) := by decide +kernel
theorem dX5_forgetReads_26 : decode cX5_forgetReads 26 = .ok (.iaload, 1) := by decide +kernel
theorem dX5_forgetReads_27 : decode cX5_forgetReads 27 = .ok (.iconst 5, 1) := by decide +kernel
theorem dX5_forgetReads_28 : decode cX5_forgetReads 28 = .ok (.imul, 1) := by decide +kernel
theorem dX5_forgetReads_29 : decode cX5_forgetReads 29 = .ok (.iload_n 2, 1) := by decide +kernel
theorem dX5_forgetReads_30 : decode cX5_forgetReads 30 = .ok (.iadd, 1) := by decide +kernel
theorem dX5_forgetReads_31 : decode cX5_forgetReads 31 = .ok (.lconst 0, 1) := by decide +kernel
theorem dX5_forgetReads_32 : decode cX5_forgetReads 32 = .ok (.lastore, 1) := by decide +kernel
theorem dX5_forgetReads_33 : decode cX5_forgetReads 33 = .ok (.iinc 2 1, 3) := by decide +kernel
theorem dX5_forgetReads_36 : decode cX5_forgetReads 36 = .ok (.goto (-24), 3) := by decide +kernel
theorem dX5_forgetReads_39 : decode cX5_forgetReads 39 = .ok (.iinc 1 1, 3) := by decide +kernel
theorem dX5_forgetReads_42 : decode cX5_forgetReads 42 = .ok (.goto (-40), 3) := by decide +kernel
theorem dX5_forgetReads_45 : decode cX5_forgetReads 45 = .ok (.iconst 0, 1) := by decide +kernel
theorem dX5_forgetReads_46 : decode cX5_forgetReads 46 = .ok (.istore_n 1, 1) := by decide +kernel
theorem dX5_forgetReads_47 : decode cX5_forgetReads 47 = .ok (.iload_n 1, 1) := by decide +kernel
theorem dX5_forgetReads_48 : decode cX5_forgetReads 48 = .ok (.iconst 5, 1) := by decide +kernel
theorem dX5_forgetReads_49 : decode cX5_forgetReads 49 = .ok (.if_icmp .ge 16, 3) := by decide +kernel
theorem dX5_forgetReads_52 : decode cX5_forgetReads 52 = .ok (.aload_n 0, 1) := by decide +kernel
theorem dX5_forgetReads_53 : decode cX5_forgetReads 53 = .ok (.getfield 19, 3) := by decide +kernel
theorem dX5_forgetReads_56 : decode cX5_forgetReads 56 = .ok (.iload_n 1, 1) := by decide +kernel
theorem dX5_forgetReads_57 : decode cX5_forgetReads 57 = .ok (.lconst 0, 1) := by decide +kernel
theorem dX5_forgetReads_58 : decode cX5_forgetReads 58 = .ok (.lastore, 1) := by decide +kernel
theorem dX5_forgetReads_59 : decode cX5_forgetReads 59 = .ok (.iinc 1 1, 3) := by decide +kernel
theorem dX5_forgetReads_62 : decode cX5_forgetReads 62 = .ok (.goto (-15), 3) := by decide +kernel
theorem dX5_forgetReads_65 : decode cX5_forgetReads 65 = .ok (.aload_n 0, 1) := by decide +kernel
theorem dX5_forgetReads_66 : decode cX5_forgetReads 66 = .ok (.iconst 0, 1) := by decide +kernel
theorem dX5_forgetReads_67 : decode cX5_forgetReads 67 = .ok (.putfield 58, 3) := by decide +kernel
theorem dX5_forgetReads_70 : decode cX5_forgetReads 70 = .ok (.return_, 1) := by decide +kernel
theorem dX5_gatherReads_0 : decode cX5_gatherReads 0 = .ok (.iconst 0, 1) := by decide +kernel
theorem dX5_gatherReads_1 : decode cX5_gatherReads 1 = .ok (.istore_n 1, 1) := by decide +kernel
theorem dX5_gatherReads_2 : decode cX5_gatherReads 2 = .ok (.iload_n 1, 1) := by decide +kernel
theorem dX5_gatherReads_3 : decode cX5_gatherReads 3 = .ok (.sipush 288, 3) := by decide +kernel
theorem dX5_gatherReads_6 : decode cX5_gatherReads 6 = .ok (.if_icmp .ge 81, 3) := by decide +kernel
theorem dX5_gatherReads_9 : decode cX5_gatherReads 9 = .ok (.aload_n 0, 1) := by decide +kernel
theorem dX5_gatherReads_10 : decode cX5_gatherReads 10 = .ok (.getfield 29, 3) := by decide +kernel
theorem dX5_gatherReads_13 : decode cX5_gatherReads 13 = .ok (.iload_n 1, 1) := by decide +kernel
theorem dX5_gatherReads_14 : decode cX5_gatherReads 14 = .ok (.iconst 0, 1) := by decide +kernel
theorem dX5_gatherReads_15 : decode cX5_gatherReads 15 = .ok (.bastore, 1) := by decide +kernel
theorem dX5_gatherReads_16 : decode cX5_gatherReads 16 = .ok (.aload_n 0, 1) := by decide +kernel
theorem dX5_gatherReads_17 : decode cX5_gatherReads 17 = .ok (.getfield 33, 3) := by decide +kernel
theorem dX5_gatherReads_20 : decode cX5_gatherReads 20 = .ok (.iload_n 1, 1) := by decide +kernel
theorem dX5_gatherReads_21 : decode cX5_gatherReads 21 = .ok (.iconst 0, 1) := by decide +kernel
theorem dX5_gatherReads_22 : decode cX5_gatherReads 22 = .ok (.iastore, 1) := by decide +kernel
theorem dX5_gatherReads_23 : decode cX5_gatherReads 23 = .ok (.aload_n 0, 1) := by decide +kernel
theorem dX5_gatherReads_24 : decode cX5_gatherReads 24 = .ok (.getfield 9, 3) := by decide +kernel
theorem dX5_gatherReads_27 : decode cX5_gatherReads 27 = .ok (.iload_n 1, 1) := by decide +kernel
theorem dX5_gatherReads_28 : decode cX5_gatherReads 28 = .ok (.invokevirtual 89, 3) := by decide +kernel
theorem dX5_gatherReads_31 : decode cX5_gatherReads 31 = .ok (.astore_n 2, 1) := by decide +kernel
theorem dX5_gatherReads_32 : decode cX5_gatherReads 32 = .ok (.aload_n 2, 1) := by decide +kernel
theorem dX5_gatherReads_33 : decode cX5_gatherReads 33 = .ok (.ifnull 48, 3) := by decide +kernel
theorem dX5_gatherReads_36 : decode cX5_gatherReads 36 = .ok (.aload_n 0, 1) := by decide +kernel
theorem dX5_gatherReads_37 : decode cX5_gatherReads 37 = .ok (.getfield 58, 3) := by decide +kernel
theorem dX5_gatherReads_40 : decode cX5_gatherReads 40 = .ok (.sipush 288, 3) := by decide +kernel
theorem dX5_gatherReads_43 : decode cX5_gatherReads 43 = .ok (.if_icmp .ge 38, 3) := by decide +kernel
theorem dX5_gatherReads_46 : decode cX5_gatherReads 46 = .ok (.aload_n 0, 1) := by decide +kernel
theorem dX5_gatherReads_47 : decode cX5_gatherReads 47 = .ok (.getfield 15, 3) := by decide +kernel
theorem dX5_gatherReads_50 : decode cX5_gatherReads 50 = .ok (.aload_n 0, 1) := by decide +kernel
theorem dX5_gatherReads_51 : decode cX5_gatherReads 51 = .ok (.getfield 58, 3) := by decide +kernel
theorem dX5_gatherReads_54 : decode cX5_gatherReads 54 = .ok (.iload_n 1, 1) := by decide +kernel
theorem dX5_gatherReads_55 : decode cX5_gatherReads 55 = .ok (.iastore, 1) := by decide +kernel
theorem dX5_gatherReads_56 : decode cX5_gatherReads 56 = .ok (.aload_n 0, 1) := by decide +kernel
theorem dX5_gatherReads_57 : decode cX5_gatherReads 57 = .ok (.dup, 1) := by decide +kernel
theorem dX5_gatherReads_58 : decode cX5_gatherReads 58 = .ok (.getfield 58, 3) := by decide +kernel
theorem dX5_gatherReads_61 : decode cX5_gatherReads 61 = .ok (.iconst 1, 1) := by decide +kernel
theorem dX5_gatherReads_62 : decode cX5_gatherReads 62 = .ok (.iadd, 1) := by decide +kernel
theorem dX5_gatherReads_63 : decode cX5_gatherReads 63 = .ok (.putfield 58, 3) := by decide +kernel
theorem dX5_gatherReads_66 : decode cX5_gatherReads 66 = .ok (.aload_n 0, 1) := by decide +kernel
theorem dX5_gatherReads_67 : decode cX5_gatherReads 67 = .ok (.getfield 19, 3) := by decide +kernel
theorem dX5_gatherReads_70 : decode cX5_gatherReads 70 = .ok (.iconst 0, 1) := by decide +kernel
theorem dX5_gatherReads_71 : decode cX5_gatherReads 71 = .ok (.iload_n 1, 1) := by decide +kernel
theorem dX5_gatherReads_72 : decode cX5_gatherReads 72 = .ok (.invokestatic 93, 3) := by decide +kernel
theorem dX5_gatherReads_75 : decode cX5_gatherReads 75 = .ok (.aload_n 0, 1) := by decide +kernel
theorem dX5_gatherReads_76 : decode cX5_gatherReads 76 = .ok (.iload_n 1, 1) := by decide +kernel
theorem dX5_gatherReads_77 : decode cX5_gatherReads 77 = .ok (.aload_n 2, 1) := by decide +kernel
theorem dX5_gatherReads_78 : decode cX5_gatherReads 78 = .ok (.invokevirtual 97, 3) := by decide +kernel
theorem dX5_gatherReads_81 : decode cX5_gatherReads 81 = .ok (.iinc 1 1, 3) := by decide +kernel
theorem dX5_gatherReads_84 : decode cX5_gatherReads 84 = .ok (.goto (-82), 3) := by decide +kernel
theorem dX5_gatherReads_87 : decode cX5_gatherReads 87 = .ok (.return_, 1) := by decide +kernel
theorem dX5_release_0 : decode cX5_release 0 = .ok (.iload_n 1, 1) := by decide +kernel
theorem dX5_release_1 : decode cX5_release 1 = .ok (.istore_n 2, 1) := by decide +kernel
theorem dX5_release_2 : decode cX5_release 2 = .ok (.iload_n 2, 1) := by decide +kernel
theorem dX5_release_3 : decode cX5_release 3 = .ok (.aload_n 0, 1) := by decide +kernel
theorem dX5_release_4 : decode cX5_release 4 = .ok (.getfield 55, 3) := by decide +kernel
theorem dX5_release_7 : decode cX5_release 7 = .ok (.if_icmp .ge 95, 3) := by decide +kernel
theorem dX5_release_10 : decode cX5_release 10 = .ok (.iload_n 2, 1) := by decide +kernel
theorem dX5_release_11 : decode cX5_release 11 = .ok (.sipush 288, 3) := by decide +kernel
theorem dX5_release_14 : decode cX5_release 14 = .ok (.if_icmp .ge 88, 3) := by decide +kernel
theorem dX5_release_17 : decode cX5_release 17 = .ok (.iconst 0, 1) := by decide +kernel
theorem dX5_release_18 : decode cX5_release 18 = .ok (.istore_n 3, 1) := by decide +kernel
theorem dX5_release_19 : decode cX5_release 19 = .ok (.iload_n 3, 1) := by decide +kernel
theorem dX5_release_20 : decode cX5_release 20 = .ok (.aload_n 0, 1) := by decide +kernel
theorem dX5_release_21 : decode cX5_release 21 = .ok (.getfield 58, 3) := by decide +kernel
theorem dX5_release_24 : decode cX5_release 24 = .ok (.if_icmp .ge 72, 3) := by decide +kernel
theorem dX5_release_27 : decode cX5_release 27 = .ok (.aload_n 0, 1) := by decide +kernel
theorem dX5_release_28 : decode cX5_release 28 = .ok (.getfield 15, 3) := by decide +kernel
theorem dX5_release_31 : decode cX5_release 31 = .ok (.iload_n 3, 1) := by decide +kernel
theorem dX5_release_32 : decode cX5_release 32 = .ok (.iaload, 1) := by decide +kernel
theorem dX5_release_33 : decode cX5_release 33 = .ok (.istore 4, 2) := by decide +kernel
theorem dX5_release_35 : decode cX5_release 35 = .ok (.aload_n 0, 1) := by decide +kernel
theorem dX5_release_36 : decode cX5_release 36 = .ok (.getfield 33, 3) := by decide +kernel
theorem dX5_release_39 : decode cX5_release 39 = .ok (.iload 4, 2) := by decide +kernel
theorem dX5_release_41 : decode cX5_release 41 = .ok (.iaload, 1) := by decide +kernel
theorem dX5_release_42 : decode cX5_release 42 = .ok (.ifCond .le 48, 3) := by decide +kernel
theorem dX5_release_45 : decode cX5_release 45 = .ok (.aload_n 0, 1) := by decide +kernel
theorem dX5_release_46 : decode cX5_release 46 = .ok (.getfield 23, 3) := by decide +kernel
theorem dX5_release_49 : decode cX5_release 49 = .ok (.iload 4, 2) := by decide +kernel
theorem dX5_release_51 : decode cX5_release 51 = .ok (.aload_n 0, 1) := by decide +kernel
theorem dX5_release_52 : decode cX5_release 52 = .ok (.getfield 36, 3) := by decide +kernel
theorem dX5_release_55 : decode cX5_release 55 = .ok (.iload_n 2, 1) := by decide +kernel
theorem dX5_release_56 : decode cX5_release 56 = .ok (.iaload, 1) := by decide +kernel
theorem dX5_release_57 : decode cX5_release 57 = .ok (.invokestatic 85, 3) := by decide +kernel
theorem dX5_release_60 : decode cX5_release 60 = .ok (.ifCond .eq 30, 3) := by decide +kernel
theorem dX5_release_63 : decode cX5_release 63 = .ok (.aload_n 0, 1) := by decide +kernel
theorem dX5_release_64 : decode cX5_release 64 = .ok (.getfield 33, 3) := by decide +kernel
theorem dX5_release_67 : decode cX5_release 67 = .ok (.iload 4, 2) := by decide +kernel
theorem dX5_release_69 : decode cX5_release 69 = .ok (.dup2, 1) := by decide +kernel
theorem dX5_release_70 : decode cX5_release 70 = .ok (.iaload, 1) := by decide +kernel
theorem dX5_release_71 : decode cX5_release 71 = .ok (.iconst 1, 1) := by decide +kernel
theorem dX5_release_72 : decode cX5_release 72 = .ok (.isub, 1) := by decide +kernel
theorem dX5_release_73 : decode cX5_release 73 = .ok (.iastore, 1) := by decide +kernel
theorem dX5_release_74 : decode cX5_release 74 = .ok (.aload_n 0, 1) := by decide +kernel
theorem dX5_release_75 : decode cX5_release 75 = .ok (.getfield 33, 3) := by decide +kernel
theorem dX5_release_78 : decode cX5_release 78 = .ok (.iload 4, 2) := by decide +kernel
theorem dX5_release_80 : decode cX5_release 80 = .ok (.iaload, 1) := by decide +kernel
theorem dX5_release_81 : decode cX5_release 81 = .ok (.ifCond .ne 9, 3) := by decide +kernel
theorem dX5_release_84 : decode cX5_release 84 = .ok (.aload_n 0, 1) := by decide +kernel
theorem dX5_release_85 : decode cX5_release 85 = .ok (.iload 4, 2) := by decide +kernel
theorem dX5_release_87 : decode cX5_release 87 = .ok (.invokevirtual 65, 3) := by decide +kernel
theorem dX5_release_90 : decode cX5_release 90 = .ok (.iinc 3 1, 3) := by decide +kernel
theorem dX5_release_93 : decode cX5_release 93 = .ok (.goto (-74), 3) := by decide +kernel
theorem dX5_release_96 : decode cX5_release 96 = .ok (.iinc 2 1, 3) := by decide +kernel
theorem dX5_release_99 : decode cX5_release 99 = .ok (.goto (-97), 3) := by decide +kernel
theorem dX5_release_102 : decode cX5_release 102 = .ok (.return_, 1) := by decide +kernel
theorem dX6_init_0 : decode cX6_init 0 = .ok (.aload_n 0, 1) := by decide +kernel
theorem dX6_init_1 : decode cX6_init 1 = .ok (.invokespecial 3, 3) := by decide +kernel
theorem dX6_init_4 : decode cX6_init 4 = .ok (.aload_n 0, 1) := by decide +kernel
theorem dX6_init_5 : decode cX6_init 5 = .ok (.new 9, 3) := by decide +kernel
theorem dX6_init_8 : decode cX6_init 8 = .ok (.dup, 1) := by decide +kernel
theorem dX6_init_9 : decode cX6_init 9 = .ok (.iconst 0, 1) := by decide +kernel
theorem dX6_init_10 : decode cX6_init 10 = .ok (.iconst 0, 1) := by decide +kernel
theorem dX6_init_11 : decode cX6_init 11 = .ok (.aconst_null, 1) := by decide +kernel
theorem dX6_init_12 : decode cX6_init 12 = .ok (.invokespecial 11, 3) := by decide +kernel
theorem dX6_init_15 : decode cX6_init 15 = .ok (.putfield 14, 3) := by decide +kernel
theorem dX6_init_18 : decode cX6_init 18 = .ok (.aload_n 0, 1) := by decide +kernel
theorem dX6_init_19 : decode cX6_init 19 = .ok (.sipush 288, 3) := by decide +kernel
theorem dX6_init_22 : decode cX6_init 22 = .ok (.anewarray 9, 3) := by decide +kernel
theorem dX6_init_25 : decode cX6_init 25 = .ok (.putfield 20, 3) := by decide +kernel
theorem dX6_init_28 : decode cX6_init 28 = .ok (.iconst 0, 1) := by decide +kernel
theorem dX6_init_29 : decode cX6_init 29 = .ok (.istore_n 1, 1) := by decide +kernel
theorem dX6_init_30 : decode cX6_init 30 = .ok (.iload_n 1, 1) := by decide +kernel
theorem dX6_init_31 : decode cX6_init 31 = .ok (.sipush 288, 3) := by decide +kernel
theorem dX6_init_34 : decode cX6_init 34 = .ok (.if_icmp .ge 19, 3) := by decide +kernel
theorem dX6_init_37 : decode cX6_init 37 = .ok (.aload_n 0, 1) := by decide +kernel
theorem dX6_init_38 : decode cX6_init 38 = .ok (.getfield 20, 3) := by decide +kernel
theorem dX6_init_41 : decode cX6_init 41 = .ok (.iload_n 1, 1) := by decide +kernel
theorem dX6_init_42 : decode cX6_init 42 = .ok (.aload_n 0, 1) := by decide +kernel
theorem dX6_init_43 : decode cX6_init 43 = .ok (.getfield 14, 3) := by decide +kernel
theorem dX6_init_46 : decode cX6_init 46 = .ok (.aastore, 1) := by decide +kernel
theorem dX6_init_47 : decode cX6_init 47 = .ok (.iinc 1 1, 3) := by decide +kernel
theorem dX6_init_50 : decode cX6_init 50 = .ok (.goto (-20), 3) := by decide +kernel
theorem dX6_init_53 : decode cX6_init 53 = .ok (.aload_n 0, 1) := by decide +kernel
theorem dX6_init_54 : decode cX6_init 54 = .ok (.sipush 288, 3) := by decide +kernel
theorem dX6_init_57 : decode cX6_init 57 = .ok (.newarray .boolean, 2) := by decide +kernel
theorem dX6_init_59 : decode cX6_init 59 = .ok (.putfield 24, 3) := by decide +kernel
theorem dX6_init_62 : decode cX6_init 62 = .ok (.aload_n 0, 1) := by decide +kernel
theorem dX6_init_63 : decode cX6_init 63 = .ok (.bipush 20, 2) := by decide +kernel
theorem dX6_init_65 : decode cX6_init 65 = .ok (.newarray .int, 2) := by decide +kernel
theorem dX6_init_67 : decode cX6_init 67 = .ok (.putfield 28, 3) := by decide +kernel
theorem dX6_init_70 : decode cX6_init 70 = .ok (.aload_n 0, 1) := by decide +kernel
theorem dX6_init_71 : decode cX6_init 71 = .ok (.bipush 20, 2) := by decide +kernel
theorem dX6_init_73 : decode cX6_init 73 = .ok (.anewarray 9, 3) := by decide +kernel
theorem dX6_init_76 : decode cX6_init 76 = .ok (.putfield 32, 3) := by decide +kernel
theorem dX6_init_79 : decode cX6_init 79 = .ok (.iconst 0, 1) := by decide +kernel
theorem dX6_init_80 : decode cX6_init 80 = .ok (.istore_n 1, 1) := by decide +kernel
theorem dX6_init_81 : decode cX6_init 81 = .ok (.iload_n 1, 1) := by decide +kernel
theorem dX6_init_82 : decode cX6_init 82 = .ok (.bipush 20, 2) := by decide +kernel
theorem dX6_init_84 : decode cX6_init 84 = .ok (.if_icmp .ge 19, 3) := by decide +kernel
theorem dX6_init_87 : decode cX6_init 87 = .ok (.aload_n 0, 1) := by decide +kernel
theorem dX6_init_88 : decode cX6_init 88 = .ok (.getfield 32, 3) := by decide +kernel
theorem dX6_init_91 : decode cX6_init 91 = .ok (.iload_n 1, 1) := by decide +kernel
theorem dX6_init_92 : decode cX6_init 92 = .ok (.aload_n 0, 1) := by decide +kernel
theorem dX6_init_93 : decode cX6_init 93 = .ok (.getfield 14, 3) := by decide +kernel
theorem dX6_init_96 : decode cX6_init 96 = .ok (.aastore, 1) := by decide +kernel
theorem dX6_init_97 : decode cX6_init 97 = .ok (.iinc 1 1, 3) := by decide +kernel
theorem dX6_init_100 : decode cX6_init 100 = .ok (.goto (-19), 3) := by decide +kernel
theorem dX6_init_103 : decode cX6_init 103 = .ok (.aload_n 0, 1) := by decide +kernel
theorem dX6_init_104 : decode cX6_init 104 = .ok (.iconst 0, 1) := by decide +kernel
theorem dX6_init_105 : decode cX6_init 105 = .ok (.putfield 35, 3) := by decide +kernel
theorem dX6_init_108 : decode cX6_init 108 = .ok (.aload_n 0, 1) := by decide +kernel
theorem dX6_init_109 : decode cX6_init 109 = .ok (.iconst 0, 1) := by decide +kernel
theorem dX6_init_110 : decode cX6_init 110 = .ok (.putfield 39, 3) := by decide +kernel
theorem dX6_init_113 : decode cX6_init 113 = .ok (.return_, 1) := by decide +kernel
theorem dX6_at_0 : decode cX6_at 0 = .ok (.iload_n 1, 1) := by decide +kernel
theorem dX6_at_1 : decode cX6_at 1 = .ok (.invokestatic 42, 3) := by decide +kernel
theorem dX6_at_4 : decode cX6_at 4 = .ok (.ifCond .eq 12, 3) := by decide +kernel
theorem dX6_at_7 : decode cX6_at 7 = .ok (.aload_n 0, 1) := by decide +kernel
theorem dX6_at_8 : decode cX6_at 8 = .ok (.getfield 20, 3) := by decide +kernel
theorem dX6_at_11 : decode cX6_at 11 = .ok (.iload_n 1, 1) := by decide +kernel
theorem dX6_at_12 : decode cX6_at 12 = .ok (.aaload, 1) := by decide +kernel
theorem dX6_at_13 : decode cX6_at 13 = .ok (.goto 7, 3) := by decide +kernel
theorem dX6_at_16 : decode cX6_at 16 = .ok (.aload_n 0, 1) := by decide +kernel
theorem dX6_at_17 : decode cX6_at 17 = .ok (.getfield 14, 3) := by decide +kernel
theorem dX6_at_20 : decode cX6_at 20 = .ok (.areturn, 1) := by decide +kernel
theorem dX6_kindAt_0 : decode cX6_kindAt 0 = .ok (.iload_n 1, 1) := by decide +kernel
theorem dX6_kindAt_1 : decode cX6_kindAt 1 = .ok (.invokestatic 42, 3) := by decide +kernel
theorem dX6_kindAt_4 : decode cX6_kindAt 4 = .ok (.ifCond .eq 15, 3) := by decide +kernel
theorem dX6_kindAt_7 : decode cX6_kindAt 7 = .ok (.aload_n 0, 1) := by decide +kernel
theorem dX6_kindAt_8 : decode cX6_kindAt 8 = .ok (.getfield 20, 3) := by decide +kernel
theorem dX6_kindAt_11 : decode cX6_kindAt 11 = .ok (.iload_n 1, 1) := by decide +kernel
theorem dX6_kindAt_12 : decode cX6_kindAt 12 = .ok (.aaload, 1) := by decide +kernel
theorem dX6_kindAt_13 : decode cX6_kindAt 13 = .ok (.getfield 46, 3) := by decide +kernel
theorem dX6_kindAt_16 : decode cX6_kindAt 16 = .ok (.goto 4, 3) := by decide +kernel
theorem dX6_kindAt_19 : decode cX6_kindAt 19 = .ok (.iconst 0, 1) := by decide +kernel
theorem dX6_kindAt_20 : decode cX6_kindAt 20 = .ok (.ireturn, 1) := by decide +kernel
theorem dX6_formulaAt_0 : decode cX6_formulaAt 0 = .ok (.iload_n 1, 1) := by decide +kernel
theorem dX6_formulaAt_1 : decode cX6_formulaAt 1 = .ok (.invokestatic 42, 3) := by decide +kernel
theorem dX6_formulaAt_4 : decode cX6_formulaAt 4 = .ok (.ifCond .eq 15, 3) := by decide +kernel
theorem dX6_formulaAt_7 : decode cX6_formulaAt 7 = .ok (.aload_n 0, 1) := by decide +kernel
theorem dX6_formulaAt_8 : decode cX6_formulaAt 8 = .ok (.getfield 20, 3) := by decide +kernel
theorem dX6_formulaAt_11 : decode cX6_formulaAt 11 = .ok (.iload_n 1, 1) := by decide +kernel
theorem dX6_formulaAt_12 : decode cX6_formulaAt 12 = .ok (.aaload, 1) := by decide +kernel
theorem dX6_formulaAt_13 : decode cX6_formulaAt 13 = .ok (.getfield 49, 3) := by decide +kernel
theorem dX6_formulaAt_16 : decode cX6_formulaAt 16 = .ok (.goto 4, 3) := by decide +kernel
theorem dX6_formulaAt_19 : decode cX6_formulaAt 19 = .ok (.aconst_null, 1) := by decide +kernel
theorem dX6_formulaAt_20 : decode cX6_formulaAt 20 = .ok (.areturn, 1) := by decide +kernel
theorem dX6_copyFor_0 : decode cX6_copyFor 0 = .ok (.aload_n 0, 1) := by decide +kernel
theorem dX6_copyFor_1 : decode cX6_copyFor 1 = .ok (.iload_n 1, 1) := by decide +kernel
theorem dX6_copyFor_2 : decode cX6_copyFor 2 = .ok (.invokevirtual 53, 3) := by decide +kernel
theorem dX6_copyFor_5 : decode cX6_copyFor 5 = .ok (.astore_n 3, 1) := by decide +kernel
theorem dX6_copyFor_6 : decode cX6_copyFor 6 = .ok (.aload_n 3, 1) := by decide +kernel
theorem dX6_copyFor_7 : decode cX6_copyFor 7 = .ok (.iload_n 2, 1) := by decide +kernel
theorem dX6_copyFor_8 : decode cX6_copyFor 8 = .ok (.invokevirtual 57, 3) := by decide +kernel
theorem dX6_copyFor_11 : decode cX6_copyFor 11 = .ok (.ifCond .eq 10, 3) := by decide +kernel
theorem dX6_copyFor_14 : decode cX6_copyFor 14 = .ok (.aload_n 3, 1) := by decide +kernel
theorem dX6_copyFor_15 : decode cX6_copyFor 15 = .ok (.invokevirtual 60, 3) := by decide +kernel
theorem dX6_copyFor_18 : decode cX6_copyFor 18 = .ok (.goto 4, 3) := by decide +kernel
theorem dX6_copyFor_21 : decode cX6_copyFor 21 = .ok (.aconst_null, 1) := by decide +kernel
theorem dX6_copyFor_22 : decode cX6_copyFor 22 = .ok (.areturn, 1) := by decide +kernel
theorem dX6_isKept_0 : decode cX6_isKept 0 = .ok (.iload_n 1, 1) := by decide +kernel
theorem dX6_isKept_1 : decode cX6_isKept 1 = .ok (.invokestatic 42, 3) := by decide +kernel
theorem dX6_isKept_4 : decode cX6_isKept 4 = .ok (.ifCond .eq 16, 3) := by decide +kernel
theorem dX6_isKept_7 : decode cX6_isKept 7 = .ok (.aload_n 0, 1) := by decide +kernel
theorem dX6_isKept_8 : decode cX6_isKept 8 = .ok (.getfield 24, 3) := by decide +kernel
theorem dX6_isKept_11 : decode cX6_isKept 11 = .ok (.iload_n 1, 1) := by decide +kernel
theorem dX6_isKept_12 : decode cX6_isKept 12 = .ok (.baload, 1) := by decide +kernel
theorem dX6_isKept_13 : decode cX6_isKept 13 = .ok (.ifCond .eq 7, 3) := by decide +kernel
theorem dX6_isKept_16 : decode cX6_isKept 16 = .ok (.iconst 1, 1) := by decide +kernel
theorem dX6_isKept_17 : decode cX6_isKept 17 = .ok (.goto 4, 3) := by decide +kernel
theorem dX6_isKept_20 : decode cX6_isKept 20 = .ok (.iconst 0, 1) := by decide +kernel
theorem dX6_isKept_21 : decode cX6_isKept 21 = .ok (.ireturn, 1) := by decide +kernel
theorem dX6_setKept_0 : decode cX6_setKept 0 = .ok (.iload_n 1, 1) := by decide +kernel
theorem dX6_setKept_1 : decode cX6_setKept 1 = .ok (.invokestatic 42, 3) := by decide +kernel
theorem dX6_setKept_4 : decode cX6_setKept 4 = .ok (.ifCond .ne 5, 3) := by decide +kernel
theorem dX6_setKept_7 : decode cX6_setKept 7 = .ok (.iconst 0, 1) := by decide +kernel
theorem dX6_setKept_8 : decode cX6_setKept 8 = .ok (.ireturn, 1) := by decide +kernel
theorem dX6_setKept_9 : decode cX6_setKept 9 = .ok (.aload_n 0, 1) := by decide +kernel
theorem dX6_setKept_10 : decode cX6_setKept 10 = .ok (.getfield 24, 3) := by decide +kernel
theorem dX6_setKept_13 : decode cX6_setKept 13 = .ok (.iload_n 1, 1) := by decide +kernel
theorem dX6_setKept_14 : decode cX6_setKept 14 = .ok (.iload_n 2, 1) := by decide +kernel
theorem dX6_setKept_15 : decode cX6_setKept 15 = .ok (.bastore, 1) := by decide +kernel
theorem dX6_setKept_16 : decode cX6_setKept 16 = .ok (.iconst 1, 1) := by decide +kernel
theorem dX6_setKept_17 : decode cX6_setKept 17 = .ok (.ireturn, 1) := by decide +kernel
theorem dX6_cellsOfKind_0 : decode cX6_cellsOfKind 0 = .ok (.iconst 0, 1) := by decide +kernel
theorem dX6_cellsOfKind_1 : decode cX6_cellsOfKind 1 = .ok (.istore_n 2, 1) := by decide +kernel
theorem dX6_cellsOfKind_2 : decode cX6_cellsOfKind 2 = .ok (.iconst 0, 1) := by decide +kernel
theorem dX6_cellsOfKind_3 : decode cX6_cellsOfKind 3 = .ok (.istore_n 3, 1) := by decide +kernel
theorem dX6_cellsOfKind_4 : decode cX6_cellsOfKind 4 = .ok (.iload_n 3, 1) := by decide +kernel
theorem dX6_cellsOfKind_5 : decode cX6_cellsOfKind 5 = .ok (.sipush 288, 3) := by decide +kernel
theorem dX6_cellsOfKind_8 : decode cX6_cellsOfKind 8 = .ok (.if_icmp .ge 25, 3) := by decide +kernel
theorem dX6_cellsOfKind_11 : decode cX6_cellsOfKind 11 = .ok (.aload_n 0, 1) := by decide +kernel
theorem dX6_cellsOfKind_12 : decode cX6_cellsOfKind 12 = .ok (.getfield 20, 3) := by decide +kernel
theorem dX6_cellsOfKind_15 : decode cX6_cellsOfKind 15 = .ok (.iload_n 3, 1) := by decide +kernel
theorem dX6_cellsOfKind_16 : decode cX6_cellsOfKind 16 = .ok (.aaload, 1) := by decide +kernel
theorem dX6_cellsOfKind_17 : decode cX6_cellsOfKind 17 = .ok (.getfield 46, 3) := by decide +kernel
theorem dX6_cellsOfKind_20 : decode cX6_cellsOfKind 20 = .ok (.iload_n 1, 1) := by decide +kernel
theorem dX6_cellsOfKind_21 : decode cX6_cellsOfKind 21 = .ok (.if_icmp .ne 6, 3) := by decide +kernel
theorem dX6_cellsOfKind_24 : decode cX6_cellsOfKind 24 = .ok (.iinc 2 1, 3) := by decide +kernel
theorem dX6_cellsOfKind_27 : decode cX6_cellsOfKind 27 = .ok (.iinc 3 1, 3) := by decide +kernel
theorem dX6_cellsOfKind_30 : decode cX6_cellsOfKind 30 = .ok (.goto (-26), 3) := by decide +kernel
theorem dX6_cellsOfKind_33 : decode cX6_cellsOfKind 33 = .ok (.iload_n 2, 1) := by decide +kernel
theorem dX6_cellsOfKind_34 : decode cX6_cellsOfKind 34 = .ok (.ireturn, 1) := by decide +kernel
theorem dX6_replace_0 : decode cX6_replace 0 = .ok (.iload_n 1, 1) := by decide +kernel
theorem dX6_replace_1 : decode cX6_replace 1 = .ok (.invokestatic 42, 3) := by decide +kernel
theorem dX6_replace_4 : decode cX6_replace 4 = .ok (.ifCond .eq 20, 3) := by decide +kernel
theorem dX6_replace_7 : decode cX6_replace 7 = .ok (.aload_n 0, 1) := by decide +kernel
theorem dX6_replace_8 : decode cX6_replace 8 = .ok (.getfield 20, 3) := by decide +kernel
theorem dX6_replace_11 : decode cX6_replace 11 = .ok (.iload_n 1, 1) := by decide +kernel
theorem dX6_replace_12 : decode cX6_replace 12 = .ok (.aload_n 2, 1) := by decide +kernel
theorem dX6_replace_13 : decode cX6_replace 13 = .ok (.aastore, 1) := by decide +kernel
theorem dX6_replace_14 : decode cX6_replace 14 = .ok (.aload_n 0, 1) := by decide +kernel
theorem dX6_replace_15 : decode cX6_replace 15 = .ok (.dup, 1) := by decide +kernel
theorem dX6_replace_16 : decode cX6_replace 16 = .ok (.getfield 39, 3) := by decide +kernel
theorem dX6_replace_19 : decode cX6_replace 19 = .ok (.iconst 1, 1) := by decide +kernel
theorem dX6_replace_20 : decode cX6_replace 20 = .ok (.iadd, 1) := by decide +kernel
theorem dX6_replace_21 : decode cX6_replace 21 = .ok (.putfield 39, 3) := by decide +kernel
theorem dX6_replace_24 : decode cX6_replace 24 = .ok (.return_, 1) := by decide +kernel
theorem dX6_put_0 : decode cX6_put 0 = .ok (.aload_n 0, 1) := by decide +kernel
theorem dX6_put_1 : decode cX6_put 1 = .ok (.getfield 35, 3) := by decide +kernel
theorem dX6_put_4 : decode cX6_put 4 = .ok (.bipush 20, 2) := by decide +kernel
theorem dX6_put_6 : decode cX6_put 6 = .ok (.if_icmp .lt 7, 3) := by decide +kernel
theorem dX6_put_9 : decode cX6_put 9 = .ok (.aload_n 0, 1) := by decide +kernel
theorem dX6_put_10 : decode cX6_put 10 = .ok (.invokevirtual 64, 3) := by decide +kernel
theorem dX6_put_13 : decode cX6_put 13 = .ok (.aload_n 0, 1) := by decide +kernel
theorem dX6_put_14 : decode cX6_put 14 = .ok (.getfield 28, 3) := by decide +kernel
theorem dX6_put_17 : decode cX6_put 17 = .ok (.aload_n 0, 1) := by decide +kernel
theorem dX6_put_18 : decode cX6_put 18 = .ok (.getfield 35, 3) := by decide +kernel
theorem dX6_put_21 : decode cX6_put 21 = .ok (.iload_n 1, 1) := by decide +kernel
theorem dX6_put_22 : decode cX6_put 22 = .ok (.iastore, 1) := by decide +kernel
theorem dX6_put_23 : decode cX6_put 23 = .ok (.aload_n 0, 1) := by decide +kernel
theorem dX6_put_24 : decode cX6_put 24 = .ok (.getfield 32, 3) := by decide +kernel
theorem dX6_put_27 : decode cX6_put 27 = .ok (.aload_n 0, 1) := by decide +kernel
theorem dX6_put_28 : decode cX6_put 28 = .ok (.getfield 35, 3) := by decide +kernel
theorem dX6_put_31 : decode cX6_put 31 = .ok (.aload_n 0, 1) := by decide +kernel
theorem dX6_put_32 : decode cX6_put 32 = .ok (.iload_n 1, 1) := by decide +kernel
theorem dX6_put_33 : decode cX6_put 33 = .ok (.invokevirtual 53, 3) := by decide +kernel
theorem dX6_put_36 : decode cX6_put 36 = .ok (.aastore, 1) := by decide +kernel
theorem dX6_put_37 : decode cX6_put 37 = .ok (.aload_n 0, 1) := by decide +kernel
theorem dX6_put_38 : decode cX6_put 38 = .ok (.dup, 1) := by decide +kernel
theorem dX6_put_39 : decode cX6_put 39 = .ok (.getfield 35, 3) := by decide +kernel
theorem dX6_put_42 : decode cX6_put 42 = .ok (.iconst 1, 1) := by decide +kernel
theorem dX6_put_43 : decode cX6_put 43 = .ok (.iadd, 1) := by decide +kernel
theorem dX6_put_44 : decode cX6_put 44 = .ok (.putfield 35, 3) := by decide +kernel
theorem dX6_put_47 : decode cX6_put 47 = .ok (.aload_n 0, 1) := by decide +kernel
theorem dX6_put_48 : decode cX6_put 48 = .ok (.iload_n 1, 1) := by decide +kernel
theorem dX6_put_49 : decode cX6_put 49 = .ok (.aload_n 2, 1) := by decide +kernel
theorem dX6_put_50 : decode cX6_put 50 = .ok (.invokevirtual 67, 3) := by decide +kernel
theorem dX6_put_53 : decode cX6_put 53 = .ok (.return_, 1) := by decide +kernel
theorem dX7_init_0 : decode cX7_init 0 = .ok (.aload_n 0, 1) := by decide +kernel
theorem dX7_init_1 : decode cX7_init 1 = .ok (.invokespecial 3, 3) := by decide +kernel
theorem dX7_init_4 : decode cX7_init 4 = .ok (.aload_n 0, 1) := by decide +kernel
theorem dX7_init_5 : decode cX7_init 5 = .ok (.bipush 120, 2) := by decide +kernel
theorem dX7_init_7 : decode cX7_init 7 = .ok (.newarray .char, 2) := by decide +kernel
theorem dX7_init_9 : decode cX7_init 9 = .ok (.putfield 9, 3) := by decide +kernel
theorem dX7_init_12 : decode cX7_init 12 = .ok (.aload_n 0, 1) := by decide +kernel
theorem dX7_init_13 : decode cX7_init 13 = .ok (.iconst 0, 1) := by decide +kernel
theorem dX7_init_14 : decode cX7_init 14 = .ok (.putfield 15, 3) := by decide +kernel
theorem dX7_init_17 : decode cX7_init 17 = .ok (.aload_n 0, 1) := by decide +kernel
theorem dX7_init_18 : decode cX7_init 18 = .ok (.bipush 121, 2) := by decide +kernel
theorem dX7_init_20 : decode cX7_init 20 = .ok (.newarray .int, 2) := by decide +kernel
theorem dX7_init_22 : decode cX7_init 22 = .ok (.putfield 19, 3) := by decide +kernel
theorem dX7_init_25 : decode cX7_init 25 = .ok (.aload_n 0, 1) := by decide +kernel
theorem dX7_init_26 : decode cX7_init 26 = .ok (.bipush 121, 2) := by decide +kernel
theorem dX7_init_28 : decode cX7_init 28 = .ok (.newarray .int, 2) := by decide +kernel
theorem dX7_init_30 : decode cX7_init 30 = .ok (.putfield 23, 3) := by decide +kernel
theorem dX7_init_33 : decode cX7_init 33 = .ok (.aload_n 0, 1) := by decide +kernel
theorem dX7_init_34 : decode cX7_init 34 = .ok (.bipush 121, 2) := by decide +kernel
theorem dX7_init_36 : decode cX7_init 36 = .ok (.newarray .int, 2) := by decide +kernel
theorem dX7_init_38 : decode cX7_init 38 = .ok (.putfield 26, 3) := by decide +kernel
theorem dX7_init_41 : decode cX7_init 41 = .ok (.aload_n 0, 1) := by decide +kernel
theorem dX7_init_42 : decode cX7_init 42 = .ok (.bipush 120, 2) := by decide +kernel
theorem dX7_init_44 : decode cX7_init 44 = .ok (.newarray .int, 2) := by decide +kernel
theorem dX7_init_46 : decode cX7_init 46 = .ok (.putfield 29, 3) := by decide +kernel
theorem dX7_init_49 : decode cX7_init 49 = .ok (.aload_n 0, 1) := by decide +kernel
theorem dX7_init_50 : decode cX7_init 50 = .ok (.bipush 120, 2) := by decide +kernel
theorem dX7_init_52 : decode cX7_init 52 = .ok (.newarray .int, 2) := by decide +kernel
theorem dX7_init_54 : decode cX7_init 54 = .ok (.putfield 32, 3) := by decide +kernel
theorem dX7_init_57 : decode cX7_init 57 = .ok (.aload_n 0, 1) := by decide +kernel
theorem dX7_init_58 : decode cX7_init 58 = .ok (.bipush 120, 2) := by decide +kernel
theorem dX7_init_60 : decode cX7_init 60 = .ok (.newarray .int, 2) := by decide +kernel
theorem dX7_init_62 : decode cX7_init 62 = .ok (.putfield 35, 3) := by decide +kernel
theorem dX7_init_65 : decode cX7_init 65 = .ok (.return_, 1) := by decide +kernel
theorem dX7_append_0 : decode cX7_append 0 = .ok (.bipush 56, 2) := by decide +kernel
theorem dX7_append_2 : decode cX7_append 2 = .ok (.istore_n 3, 1) := by decide +kernel
theorem dX7_append_3 : decode cX7_append 3 = .ok (.iload_n 3, 1) := by decide +kernel
theorem dX7_append_4 : decode cX7_append 4 = .ok (.ifCond .lt 64, 3) := by decide +kernel
theorem dX7_append_7 : decode cX7_append 7 = .ok (.lload_n 1, 1) := by decide +kernel
theorem dX7_append_8 : decode cX7_append 8 = .ok (.iload_n 3, 1) := by decide +kernel
theorem dX7_append_9 : decode cX7_append 9 = .ok (.lushr, 1) := by decide +kernel
theorem dX7_append_10 : decode cX7_append 10 = .ok (.l2i, 1) := by decide +kernel
theorem dX7_append_11 : decode cX7_append 11 = .ok (.sipush 255, 3) := by decide +kernel
theorem dX7_append_14 : decode cX7_append 14 = .ok (.iand, 1) := by decide +kernel
theorem dX7_append_15 : decode cX7_append 15 = .ok (.istore 4, 2) := by decide +kernel
theorem dX7_append_17 : decode cX7_append 17 = .ok (.iload 4, 2) := by decide +kernel
theorem dX7_append_19 : decode cX7_append 19 = .ok (.bipush 32, 2) := by decide +kernel
theorem dX7_append_21 : decode cX7_append 21 = .ok (.if_icmp .lt 41, 3) := by decide +kernel
theorem dX7_append_24 : decode cX7_append 24 = .ok (.iload 4, 2) := by decide +kernel
theorem dX7_append_26 : decode cX7_append 26 = .ok (.bipush 126, 2) := by decide +kernel
theorem dX7_append_28 : decode cX7_append 28 = .ok (.if_icmp .gt 34, 3) := by decide +kernel
theorem dX7_append_31 : decode cX7_append 31 = .ok (.aload_n 0, 1) := by decide +kernel
theorem dX7_append_32 : decode cX7_append 32 = .ok (.getfield 15, 3) := by decide +kernel
theorem dX7_append_35 : decode cX7_append 35 = .ok (.bipush 120, 2) := by decide +kernel
theorem dX7_append_37 : decode cX7_append 37 = .ok (.if_icmp .ge 25, 3) := by decide +kernel
theorem dX7_append_40 : decode cX7_append 40 = .ok (.aload_n 0, 1) := by decide +kernel
theorem dX7_append_41 : decode cX7_append 41 = .ok (.getfield 9, 3) := by decide +kernel
theorem dX7_append_44 : decode cX7_append 44 = .ok (.aload_n 0, 1) := by decide +kernel
theorem dX7_append_45 : decode cX7_append 45 = .ok (.getfield 15, 3) := by decide +kernel
theorem dX7_append_48 : decode cX7_append 48 = .ok (.iload 4, 2) := by decide +kernel
theorem dX7_append_50 : decode cX7_append 50 = .ok (.i2c, 1) := by decide +kernel
theorem dX7_append_51 : decode cX7_append 51 = .ok (.castore, 1) := by decide +kernel
theorem dX7_append_52 : decode cX7_append 52 = .ok (.aload_n 0, 1) := by decide +kernel
theorem dX7_append_53 : decode cX7_append 53 = .ok (.dup, 1) := by decide +kernel
theorem dX7_append_54 : decode cX7_append 54 = .ok (.getfield 15, 3) := by decide +kernel
theorem dX7_append_57 : decode cX7_append 57 = .ok (.iconst 1, 1) := by decide +kernel
theorem dX7_append_58 : decode cX7_append 58 = .ok (.iadd, 1) := by decide +kernel
theorem dX7_append_59 : decode cX7_append 59 = .ok (.putfield 15, 3) := by decide +kernel
theorem dX7_append_62 : decode cX7_append 62 = .ok (.iinc 3 (-8), 3) := by decide +kernel
theorem dX7_append_65 : decode cX7_append 65 = .ok (.goto (-62), 3) := by decide +kernel
theorem dX7_append_68 : decode cX7_append 68 = .ok (.return_, 1) := by decide +kernel
theorem dX7_read_0 : decode cX7_read 0 = .ok (.aload_n 0, 1) := by decide +kernel
theorem dX7_read_1 : decode cX7_read 1 = .ok (.iload_n 1, 1) := by decide +kernel
theorem dX7_read_2 : decode cX7_read 2 = .ok (.putfield 38, 3) := by decide +kernel
theorem dX7_read_5 : decode cX7_read 5 = .ok (.aload_n 0, 1) := by decide +kernel
theorem dX7_read_6 : decode cX7_read 6 = .ok (.iconst 0, 1) := by decide +kernel
theorem dX7_read_7 : decode cX7_read 7 = .ok (.putfield 41, 3) := by decide +kernel
theorem dX7_read_10 : decode cX7_read 10 = .ok (.aload_n 0, 1) := by decide +kernel
theorem dX7_read_11 : decode cX7_read 11 = .ok (.iconst 0, 1) := by decide +kernel
theorem dX7_read_12 : decode cX7_read 12 = .ok (.putfield 44, 3) := by decide +kernel
theorem dX7_read_15 : decode cX7_read 15 = .ok (.aload_n 0, 1) := by decide +kernel
theorem dX7_read_16 : decode cX7_read 16 = .ok (.invokevirtual 47, 3) := by decide +kernel
theorem dX7_read_19 : decode cX7_read 19 = .ok (.aload_n 0, 1) := by decide +kernel
theorem dX7_read_20 : decode cX7_read 20 = .ok (.iconst 0, 1) := by decide +kernel
theorem dX7_read_21 : decode cX7_read 21 = .ok (.putfield 50, 3) := by decide +kernel
theorem dX7_read_24 : decode cX7_read 24 = .ok (.aload_n 0, 1) := by decide +kernel
theorem dX7_read_25 : decode cX7_read 25 = .ok (.iconst 0, 1) := by decide +kernel
theorem dX7_read_26 : decode cX7_read 26 = .ok (.invokevirtual 53, 3) := by decide +kernel
theorem dX7_read_29 : decode cX7_read 29 = .ok (.ifCond .ne 5, 3) := by decide +kernel
theorem dX7_read_32 : decode cX7_read 32 = .ok (.aconst_null, 1) := by decide +kernel
theorem dX7_read_33 : decode cX7_read 33 = .ok (.areturn, 1) := by decide +kernel
theorem dX7_read_34 : decode cX7_read 34 = .ok (.aload_n 0, 1) := by decide +kernel
theorem dX7_read_35 : decode cX7_read 35 = .ok (.invokevirtual 57, 3) := by decide +kernel
theorem dX7_read_38 : decode cX7_read 38 = .ok (.ifCond .eq 11, 3) := by decide +kernel
theorem dX7_read_41 : decode cX7_read 41 = .ok (.aload_n 0, 1) := by decide +kernel
theorem dX7_read_42 : decode cX7_read 42 = .ok (.iconst 1, 1) := by decide +kernel
theorem dX7_read_43 : decode cX7_read 43 = .ok (.invokevirtual 61, 3) := by decide +kernel
theorem dX7_read_46 : decode cX7_read 46 = .ok (.pop, 1) := by decide +kernel
theorem dX7_read_47 : decode cX7_read 47 = .ok (.aconst_null, 1) := by decide +kernel
theorem dX7_read_48 : decode cX7_read 48 = .ok (.areturn, 1) := by decide +kernel
theorem dX7_read_49 : decode cX7_read 49 = .ok (.new 64, 3) := by decide +kernel
theorem dX7_read_52 : decode cX7_read 52 = .ok (.dup, 1) := by decide +kernel
theorem dX7_read_53 : decode cX7_read 53 = .ok (.aload_n 0, 1) := by decide +kernel
theorem dX7_read_54 : decode cX7_read 54 = .ok (.getfield 29, 3) := by decide +kernel
theorem dX7_read_57 : decode cX7_read 57 = .ok (.aload_n 0, 1) := by decide +kernel
theorem dX7_read_58 : decode cX7_read 58 = .ok (.getfield 32, 3) := by decide +kernel
theorem dX7_read_61 : decode cX7_read 61 = .ok (.aload_n 0, 1) := by decide +kernel
theorem dX7_read_62 : decode cX7_read 62 = .ok (.getfield 35, 3) := by decide +kernel
theorem dX7_read_65 : decode cX7_read 65 = .ok (.aload_n 0, 1) := by decide +kernel
theorem dX7_read_66 : decode cX7_read 66 = .ok (.getfield 41, 3) := by decide +kernel
theorem dX7_read_69 : decode cX7_read 69 = .ok (.invokespecial 66, 3) := by decide +kernel
theorem dX7_read_72 : decode cX7_read 72 = .ok (.areturn, 1) := by decide +kernel
theorem dX7_findTokens_0 : decode cX7_findTokens 0 = .ok (.aload_n 0, 1) := by decide +kernel
theorem dX7_findTokens_1 : decode cX7_findTokens 1 = .ok (.iconst 0, 1) := by decide +kernel
theorem dX7_findTokens_2 : decode cX7_findTokens 2 = .ok (.putfield 69, 3) := by decide +kernel
theorem dX7_findTokens_5 : decode cX7_findTokens 5 = .ok (.iconst 0, 1) := by decide +kernel
theorem dX7_findTokens_6 : decode cX7_findTokens 6 = .ok (.istore_n 1, 1) := by decide +kernel
theorem dX7_findTokens_7 : decode cX7_findTokens 7 = .ok (.iconst 0, 1) := by decide +kernel
theorem dX7_findTokens_8 : decode cX7_findTokens 8 = .ok (.istore_n 2, 1) := by decide +kernel
theorem dX7_findTokens_9 : decode cX7_findTokens 9 = .ok (.iload_n 2, 1) := by decide +kernel
theorem dX7_findTokens_10 : decode cX7_findTokens 10 = .ok (.aload_n 0, 1) := by decide +kernel
theorem dX7_findTokens_11 : decode cX7_findTokens 11 = .ok (.getfield 15, 3) := by decide +kernel
theorem dX7_findTokens_14 : decode cX7_findTokens 14 = .ok (.if_icmp .ge 43, 3) := by decide +kernel
theorem dX7_findTokens_17 : decode cX7_findTokens 17 = .ok (.iload_n 2, 1) := by decide +kernel
theorem dX7_findTokens_18 : decode cX7_findTokens 18 = .ok (.iconst 1, 1) := by decide +kernel
theorem dX7_findTokens_19 : decode cX7_findTokens 19 = .ok (.iadd, 1) := by decide +kernel
theorem dX7_findTokens_20 : decode cX7_findTokens 20 = .ok (.aload_n 0, 1) := by decide +kernel
theorem dX7_findTokens_21 : decode cX7_findTokens 21 = .ok (.iload_n 2, 1) := by decide +kernel
theorem dX7_findTokens_22 : decode cX7_findTokens 22 = .ok (.invokevirtual 72, 3) := by decide +kernel
theorem dX7_findTokens_25 : decode cX7_findTokens 25 = .ok (.invokestatic 76, 3) := by decide +kernel
theorem dX7_findTokens_28 : decode cX7_findTokens 28 = .ok (.istore_n 1, 1) := by decide +kernel
theorem dX7_findTokens_29 : decode cX7_findTokens 29 = .ok (.aload_n 0, 1) := by decide +kernel
theorem dX7_findTokens_30 : decode cX7_findTokens 30 = .ok (.getfield 9, 3) := by decide +kernel
theorem dX7_findTokens_33 : decode cX7_findTokens 33 = .ok (.iload_n 2, 1) := by decide +kernel
theorem dX7_findTokens_34 : decode cX7_findTokens 34 = .ok (.caload, 1) := by decide +kernel
theorem dX7_findTokens_35 : decode cX7_findTokens 35 = .ok (.bipush 32, 2) := by decide +kernel
theorem dX7_findTokens_37 : decode cX7_findTokens 37 = .ok (.if_icmp .eq 15, 3) := by decide +kernel
theorem dX7_findTokens_40 : decode cX7_findTokens 40 = .ok (.aload_n 0, 1) := by decide +kernel
theorem dX7_findTokens_41 : decode cX7_findTokens 41 = .ok (.aload_n 0, 1) := by decide +kernel
theorem dX7_findTokens_42 : decode cX7_findTokens 42 = .ok (.iload_n 2, 1) := by decide +kernel
theorem dX7_findTokens_43 : decode cX7_findTokens 43 = .ok (.iload_n 1, 1) := by decide +kernel
theorem dX7_findTokens_44 : decode cX7_findTokens 44 = .ok (.invokevirtual 82, 3) := by decide +kernel
theorem dX7_findTokens_47 : decode cX7_findTokens 47 = .ok (.iload_n 2, 1) := by decide +kernel
theorem dX7_findTokens_48 : decode cX7_findTokens 48 = .ok (.iload_n 1, 1) := by decide +kernel
theorem dX7_findTokens_49 : decode cX7_findTokens 49 = .ok (.invokevirtual 85, 3) := by decide +kernel
theorem dX7_findTokens_52 : decode cX7_findTokens 52 = .ok (.iload_n 1, 1) := by decide +kernel
theorem dX7_findTokens_53 : decode cX7_findTokens 53 = .ok (.istore_n 2, 1) := by decide +kernel
theorem dX7_findTokens_54 : decode cX7_findTokens 54 = .ok (.goto (-45), 3) := by decide +kernel
theorem dX7_findTokens_57 : decode cX7_findTokens 57 = .ok (.aload_n 0, 1) := by decide +kernel
theorem dX7_findTokens_58 : decode cX7_findTokens 58 = .ok (.iconst 0, 1) := by decide +kernel
theorem dX7_findTokens_59 : decode cX7_findTokens 59 = .ok (.aload_n 0, 1) := by decide +kernel
theorem dX7_findTokens_60 : decode cX7_findTokens 60 = .ok (.getfield 15, 3) := by decide +kernel
theorem dX7_findTokens_63 : decode cX7_findTokens 63 = .ok (.aload_n 0, 1) := by decide +kernel
theorem dX7_findTokens_64 : decode cX7_findTokens 64 = .ok (.getfield 15, 3) := by decide +kernel
theorem dX7_findTokens_67 : decode cX7_findTokens 67 = .ok (.invokevirtual 85, 3) := by decide +kernel
theorem dX7_findTokens_70 : decode cX7_findTokens 70 = .ok (.return_, 1) := by decide +kernel
theorem dX7_addToken_0 : decode cX7_addToken 0 = .ok (.aload_n 0, 1) := by decide +kernel
theorem dX7_addToken_1 : decode cX7_addToken 1 = .ok (.getfield 69, 3) := by decide +kernel
theorem dX7_addToken_4 : decode cX7_addToken 4 = .ok (.bipush 120, 2) := by decide +kernel
theorem dX7_addToken_6 : decode cX7_addToken 6 = .ok (.if_icmp .gt 73, 3) := by decide +kernel
theorem dX7_addToken_9 : decode cX7_addToken 9 = .ok (.aload_n 0, 1) := by decide +kernel
theorem dX7_addToken_10 : decode cX7_addToken 10 = .ok (.getfield 19, 3) := by decide +kernel
theorem dX7_addToken_13 : decode cX7_addToken 13 = .ok (.aload_n 0, 1) := by decide +kernel
theorem dX7_addToken_14 : decode cX7_addToken 14 = .ok (.getfield 69, 3) := by decide +kernel
theorem dX7_addToken_17 : decode cX7_addToken 17 = .ok (.iload_n 1, 1) := by decide +kernel
theorem dX7_addToken_18 : decode cX7_addToken 18 = .ok (.iastore, 1) := by decide +kernel
theorem dX7_addToken_19 : decode cX7_addToken 19 = .ok (.aload_n 0, 1) := by decide +kernel
theorem dX7_addToken_20 : decode cX7_addToken 20 = .ok (.getfield 26, 3) := by decide +kernel
theorem dX7_addToken_23 : decode cX7_addToken 23 = .ok (.aload_n 0, 1) := by decide +kernel
theorem dX7_addToken_24 : decode cX7_addToken 24 = .ok (.getfield 69, 3) := by decide +kernel
theorem dX7_addToken_27 : decode cX7_addToken 27 = .ok (.iload_n 2, 1) := by decide +kernel
theorem dX7_addToken_28 : decode cX7_addToken 28 = .ok (.iastore, 1) := by decide +kernel
theorem dX7_addToken_29 : decode cX7_addToken 29 = .ok (.aload_n 0, 1) := by decide +kernel
theorem dX7_addToken_30 : decode cX7_addToken 30 = .ok (.getfield 23, 3) := by decide +kernel
theorem dX7_addToken_33 : decode cX7_addToken 33 = .ok (.aload_n 0, 1) := by decide +kernel
theorem dX7_addToken_34 : decode cX7_addToken 34 = .ok (.getfield 69, 3) := by decide +kernel
theorem dX7_addToken_37 : decode cX7_addToken 37 = .ok (.iload_n 1, 1) := by decide +kernel
theorem dX7_addToken_38 : decode cX7_addToken 38 = .ok (.bipush 119, 2) := by decide +kernel
theorem dX7_addToken_40 : decode cX7_addToken 40 = .ok (.if_icmp .ne 12, 3) := by decide +kernel
theorem dX7_addToken_43 : decode cX7_addToken 43 = .ok (.aload_n 0, 1) := by decide +kernel
theorem dX7_addToken_44 : decode cX7_addToken 44 = .ok (.iload_n 2, 1) := by decide +kernel
theorem dX7_addToken_45 : decode cX7_addToken 45 = .ok (.iload_n 3, 1) := by decide +kernel
theorem dX7_addToken_46 : decode cX7_addToken 46 = .ok (.invokevirtual 103, 3) := by decide +kernel
theorem dX7_addToken_49 : decode cX7_addToken 49 = .ok (.goto 19, 3) := by decide +kernel
theorem dX7_addToken_52 : decode cX7_addToken 52 = .ok (.iload_n 1, 1) := by decide +kernel
theorem dX7_addToken_53 : decode cX7_addToken 53 = .ok (.bipush 110, 2) := by decide +kernel
theorem dX7_addToken_55 : decode cX7_addToken 55 = .ok (.if_icmp .ne 12, 3) := by decide +kernel
theorem dX7_addToken_58 : decode cX7_addToken 58 = .ok (.aload_n 0, 1) := by decide +kernel
theorem dX7_addToken_59 : decode cX7_addToken 59 = .ok (.iload_n 2, 1) := by decide +kernel
theorem dX7_addToken_60 : decode cX7_addToken 60 = .ok (.iload_n 3, 1) := by decide +kernel
theorem dX7_addToken_61 : decode cX7_addToken 61 = .ok (.invokevirtual 106, 3) := by decide +kernel
theorem dX7_addToken_64 : decode cX7_addToken 64 = .ok (.goto 4, 3) := by decide +kernel
theorem dX7_addToken_67 : decode cX7_addToken 67 = .ok (.iconst 0, 1) := by decide +kernel
theorem dX7_addToken_68 : decode cX7_addToken 68 = .ok (.iastore, 1) := by decide +kernel
theorem dX7_addToken_69 : decode cX7_addToken 69 = .ok (.aload_n 0, 1) := by decide +kernel
theorem dX7_addToken_70 : decode cX7_addToken 70 = .ok (.dup, 1) := by decide +kernel
theorem dX7_addToken_71 : decode cX7_addToken 71 = .ok (.getfield 69, 3) := by decide +kernel
theorem dX7_addToken_74 : decode cX7_addToken 74 = .ok (.iconst 1, 1) := by decide +kernel
theorem dX7_addToken_75 : decode cX7_addToken 75 = .ok (.iadd, 1) := by decide +kernel
theorem dX7_addToken_76 : decode cX7_addToken 76 = .ok (.putfield 69, 3) := by decide +kernel
theorem dX7_addToken_79 : decode cX7_addToken 79 = .ok (.return_, 1) := by decide +kernel
theorem dX7_kind_0 : decode cX7_kind 0 = .ok (.aload_n 0, 1) := by decide +kernel
theorem dX7_kind_1 : decode cX7_kind 1 = .ok (.getfield 50, 3) := by decide +kernel
theorem dX7_kind_4 : decode cX7_kind 4 = .ok (.ifCond .lt 26, 3) := by decide +kernel
theorem dX7_kind_7 : decode cX7_kind 7 = .ok (.aload_n 0, 1) := by decide +kernel
theorem dX7_kind_8 : decode cX7_kind 8 = .ok (.getfield 50, 3) := by decide +kernel
theorem dX7_kind_11 : decode cX7_kind 11 = .ok (.aload_n 0, 1) := by decide +kernel
theorem dX7_kind_12 : decode cX7_kind 12 = .ok (.getfield 69, 3) := by decide +kernel
theorem dX7_kind_15 : decode cX7_kind 15 = .ok (.if_icmp .ge 15, 3) := by decide +kernel
theorem dX7_kind_18 : decode cX7_kind 18 = .ok (.aload_n 0, 1) := by decide +kernel
theorem dX7_kind_19 : decode cX7_kind 19 = .ok (.getfield 19, 3) := by decide +kernel
theorem dX7_kind_22 : decode cX7_kind 22 = .ok (.aload_n 0, 1) := by decide +kernel
theorem dX7_kind_23 : decode cX7_kind 23 = .ok (.getfield 50, 3) := by decide +kernel
theorem dX7_kind_26 : decode cX7_kind 26 = .ok (.iaload, 1) := by decide +kernel
theorem dX7_kind_27 : decode cX7_kind 27 = .ok (.goto 4, 3) := by decide +kernel
theorem dX7_kind_30 : decode cX7_kind 30 = .ok (.iconst 0, 1) := by decide +kernel
theorem dX7_kind_31 : decode cX7_kind 31 = .ok (.ireturn, 1) := by decide +kernel
theorem dX7_wrong_0 : decode cX7_wrong 0 = .ok (.aload_n 0, 1) := by decide +kernel
theorem dX7_wrong_1 : decode cX7_wrong 1 = .ok (.getfield 50, 3) := by decide +kernel
theorem dX7_wrong_4 : decode cX7_wrong 4 = .ok (.ifCond .lt 26, 3) := by decide +kernel
theorem dX7_wrong_7 : decode cX7_wrong 7 = .ok (.aload_n 0, 1) := by decide +kernel
theorem dX7_wrong_8 : decode cX7_wrong 8 = .ok (.getfield 50, 3) := by decide +kernel
theorem dX7_wrong_11 : decode cX7_wrong 11 = .ok (.aload_n 0, 1) := by decide +kernel
theorem dX7_wrong_12 : decode cX7_wrong 12 = .ok (.getfield 69, 3) := by decide +kernel
theorem dX7_wrong_15 : decode cX7_wrong 15 = .ok (.if_icmp .ge 15, 3) := by decide +kernel
theorem dX7_wrong_18 : decode cX7_wrong 18 = .ok (.aload_n 0, 1) := by decide +kernel
theorem dX7_wrong_19 : decode cX7_wrong 19 = .ok (.getfield 26, 3) := by decide +kernel
theorem dX7_wrong_22 : decode cX7_wrong 22 = .ok (.aload_n 0, 1) := by decide +kernel
theorem dX7_wrong_23 : decode cX7_wrong 23 = .ok (.getfield 50, 3) := by decide +kernel
theorem dX7_wrong_26 : decode cX7_wrong 26 = .ok (.iaload, 1) := by decide +kernel
theorem dX7_wrong_27 : decode cX7_wrong 27 = .ok (.goto 7, 3) := by decide +kernel
theorem dX7_wrong_30 : decode cX7_wrong 30 = .ok (.aload_n 0, 1) := by decide +kernel
theorem dX7_wrong_31 : decode cX7_wrong 31 = .ok (.getfield 15, 3) := by decide +kernel
theorem dX7_wrong_34 : decode cX7_wrong 34 = .ok (.istore_n 2, 1) := by decide +kernel
theorem dX7_wrong_35 : decode cX7_wrong 35 = .ok (.aload_n 0, 1) := by decide +kernel
theorem dX7_wrong_36 : decode cX7_wrong 36 = .ok (.iload_n 1, 1) := by decide +kernel
theorem dX7_wrong_37 : decode cX7_wrong 37 = .ok (.bipush 16, 2) := by decide +kernel
theorem dX7_wrong_39 : decode cX7_wrong 39 = .ok (.iload_n 2, 1) := by decide +kernel
theorem dX7_wrong_40 : decode cX7_wrong 40 = .ok (.imul, 1) := by decide +kernel
theorem dX7_wrong_41 : decode cX7_wrong 41 = .ok (.iadd, 1) := by decide +kernel
theorem dX7_wrong_42 : decode cX7_wrong 42 = .ok (.putfield 44, 3) := by decide +kernel
theorem dX7_wrong_45 : decode cX7_wrong 45 = .ok (.iconst 0, 1) := by decide +kernel
theorem dX7_wrong_46 : decode cX7_wrong 46 = .ok (.ireturn, 1) := by decide +kernel
theorem dX7_sum_0 : decode cX7_sum 0 = .ok (.aload_n 0, 1) := by decide +kernel
theorem dX7_sum_1 : decode cX7_sum 1 = .ok (.iload_n 1, 1) := by decide +kernel
theorem dX7_sum_2 : decode cX7_sum 2 = .ok (.invokevirtual 109, 3) := by decide +kernel
theorem dX7_sum_5 : decode cX7_sum 5 = .ok (.ifCond .ne 5, 3) := by decide +kernel
theorem dX7_sum_8 : decode cX7_sum 8 = .ok (.iconst 0, 1) := by decide +kernel
theorem dX7_sum_9 : decode cX7_sum 9 = .ok (.ireturn, 1) := by decide +kernel
theorem dX7_sum_10 : decode cX7_sum 10 = .ok (.iconst 0, 1) := by decide +kernel
theorem dX7_sum_11 : decode cX7_sum 11 = .ok (.istore_n 2, 1) := by decide +kernel
theorem dX7_sum_12 : decode cX7_sum 12 = .ok (.iload_n 2, 1) := by decide +kernel
theorem dX7_sum_13 : decode cX7_sum 13 = .ok (.bipush 120, 2) := by decide +kernel
theorem dX7_sum_15 : decode cX7_sum 15 = .ok (.if_icmp .ge 70, 3) := by decide +kernel
theorem dX7_sum_18 : decode cX7_sum 18 = .ok (.aload_n 0, 1) := by decide +kernel
theorem dX7_sum_19 : decode cX7_sum 19 = .ok (.invokevirtual 57, 3) := by decide +kernel
theorem dX7_sum_22 : decode cX7_sum 22 = .ok (.bipush 43, 2) := by decide +kernel
theorem dX7_sum_24 : decode cX7_sum 24 = .ok (.if_icmp .eq 12, 3) := by decide +kernel
theorem dX7_sum_27 : decode cX7_sum 27 = .ok (.aload_n 0, 1) := by decide +kernel
theorem dX7_sum_28 : decode cX7_sum 28 = .ok (.invokevirtual 57, 3) := by decide +kernel
theorem dX7_sum_31 : decode cX7_sum 31 = .ok (.bipush 45, 2) := by decide +kernel
theorem dX7_sum_33 : decode cX7_sum 33 = .ok (.if_icmp .ne 52, 3) := by decide +kernel
theorem dX7_sum_36 : decode cX7_sum 36 = .ok (.aload_n 0, 1) := by decide +kernel
theorem dX7_sum_37 : decode cX7_sum 37 = .ok (.invokevirtual 57, 3) := by decide +kernel
theorem dX7_sum_40 : decode cX7_sum 40 = .ok (.bipush 43, 2) := by decide +kernel
theorem dX7_sum_42 : decode cX7_sum 42 = .ok (.if_icmp .ne 7, 3) := by decide +kernel
theorem dX7_sum_45 : decode cX7_sum 45 = .ok (.iconst 5, 1) := by decide +kernel
theorem dX7_sum_46 : decode cX7_sum 46 = .ok (.goto 5, 3) := by decide +kernel
theorem dX7_sum_49 : decode cX7_sum 49 = .ok (.bipush 6, 2) := by decide +kernel
theorem dX7_sum_51 : decode cX7_sum 51 = .ok (.istore_n 3, 1) := by decide +kernel
theorem dX7_sum_52 : decode cX7_sum 52 = .ok (.aload_n 0, 1) := by decide +kernel
theorem dX7_sum_53 : decode cX7_sum 53 = .ok (.dup, 1) := by decide +kernel
theorem dX7_sum_54 : decode cX7_sum 54 = .ok (.getfield 50, 3) := by decide +kernel
theorem dX7_sum_57 : decode cX7_sum 57 = .ok (.iconst 1, 1) := by decide +kernel
theorem dX7_sum_58 : decode cX7_sum 58 = .ok (.iadd, 1) := by decide +kernel
theorem dX7_sum_59 : decode cX7_sum 59 = .ok (.putfield 50, 3) := by decide +kernel
theorem dX7_sum_62 : decode cX7_sum 62 = .ok (.aload_n 0, 1) := by decide +kernel
theorem dX7_sum_63 : decode cX7_sum 63 = .ok (.iload_n 1, 1) := by decide +kernel
theorem dX7_sum_64 : decode cX7_sum 64 = .ok (.invokevirtual 109, 3) := by decide +kernel
theorem dX7_sum_67 : decode cX7_sum 67 = .ok (.ifCond .ne 5, 3) := by decide +kernel
theorem dX7_sum_70 : decode cX7_sum 70 = .ok (.iconst 0, 1) := by decide +kernel
theorem dX7_sum_71 : decode cX7_sum 71 = .ok (.ireturn, 1) := by decide +kernel
theorem dX7_sum_72 : decode cX7_sum 72 = .ok (.aload_n 0, 1) := by decide +kernel
theorem dX7_sum_73 : decode cX7_sum 73 = .ok (.iload_n 3, 1) := by decide +kernel
theorem dX7_sum_74 : decode cX7_sum 74 = .ok (.iconst 0, 1) := by decide +kernel
theorem dX7_sum_75 : decode cX7_sum 75 = .ok (.iconst 0, 1) := by decide +kernel
theorem dX7_sum_76 : decode cX7_sum 76 = .ok (.invokevirtual 112, 3) := by decide +kernel
theorem dX7_sum_79 : decode cX7_sum 79 = .ok (.iinc 2 1, 3) := by decide +kernel
theorem dX7_sum_82 : decode cX7_sum 82 = .ok (.goto (-70), 3) := by decide +kernel
theorem dX7_sum_85 : decode cX7_sum 85 = .ok (.iconst 1, 1) := by decide +kernel
theorem dX7_sum_86 : decode cX7_sum 86 = .ok (.ireturn, 1) := by decide +kernel
theorem dX7_product_0 : decode cX7_product 0 = .ok (.aload_n 0, 1) := by decide +kernel
theorem dX7_product_1 : decode cX7_product 1 = .ok (.iload_n 1, 1) := by decide +kernel
theorem dX7_product_2 : decode cX7_product 2 = .ok (.invokevirtual 115, 3) := by decide +kernel
theorem dX7_product_5 : decode cX7_product 5 = .ok (.ifCond .ne 5, 3) := by decide +kernel
theorem dX7_product_8 : decode cX7_product 8 = .ok (.iconst 0, 1) := by decide +kernel
theorem dX7_product_9 : decode cX7_product 9 = .ok (.ireturn, 1) := by decide +kernel
theorem dX7_product_10 : decode cX7_product 10 = .ok (.iconst 0, 1) := by decide +kernel
theorem dX7_product_11 : decode cX7_product 11 = .ok (.istore_n 2, 1) := by decide +kernel
theorem dX7_product_12 : decode cX7_product 12 = .ok (.iload_n 2, 1) := by decide +kernel
theorem dX7_product_13 : decode cX7_product 13 = .ok (.bipush 120, 2) := by decide +kernel
theorem dX7_product_15 : decode cX7_product 15 = .ok (.if_icmp .ge 71, 3) := by decide +kernel
theorem dX7_product_18 : decode cX7_product 18 = .ok (.aload_n 0, 1) := by decide +kernel
theorem dX7_product_19 : decode cX7_product 19 = .ok (.invokevirtual 57, 3) := by decide +kernel
theorem dX7_product_22 : decode cX7_product 22 = .ok (.bipush 42, 2) := by decide +kernel
theorem dX7_product_24 : decode cX7_product 24 = .ok (.if_icmp .eq 12, 3) := by decide +kernel
theorem dX7_product_27 : decode cX7_product 27 = .ok (.aload_n 0, 1) := by decide +kernel
theorem dX7_product_28 : decode cX7_product 28 = .ok (.invokevirtual 57, 3) := by decide +kernel
theorem dX7_product_31 : decode cX7_product 31 = .ok (.bipush 47, 2) := by decide +kernel
theorem dX7_product_33 : decode cX7_product 33 = .ok (.if_icmp .ne 53, 3) := by decide +kernel
theorem dX7_product_36 : decode cX7_product 36 = .ok (.aload_n 0, 1) := by decide +kernel
theorem dX7_product_37 : decode cX7_product 37 = .ok (.invokevirtual 57, 3) := by decide +kernel
theorem dX7_product_40 : decode cX7_product 40 = .ok (.bipush 42, 2) := by decide +kernel
theorem dX7_product_42 : decode cX7_product 42 = .ok (.if_icmp .ne 8, 3) := by decide +kernel
theorem dX7_product_45 : decode cX7_product 45 = .ok (.bipush 7, 2) := by decide +kernel
theorem dX7_product_47 : decode cX7_product 47 = .ok (.goto 5, 3) := by decide +kernel
theorem dX7_product_50 : decode cX7_product 50 = .ok (.bipush 8, 2) := by decide +kernel
theorem dX7_product_52 : decode cX7_product 52 = .ok (.istore_n 3, 1) := by decide +kernel
theorem dX7_product_53 : decode cX7_product 53 = .ok (.aload_n 0, 1) := by decide +kernel
theorem dX7_product_54 : decode cX7_product 54 = .ok (.dup, 1) := by decide +kernel
theorem dX7_product_55 : decode cX7_product 55 = .ok (.getfield 50, 3) := by decide +kernel
theorem dX7_product_58 : decode cX7_product 58 = .ok (.iconst 1, 1) := by decide +kernel
theorem dX7_product_59 : decode cX7_product 59 = .ok (.iadd, 1) := by decide +kernel
theorem dX7_product_60 : decode cX7_product 60 = .ok (.putfield 50, 3) := by decide +kernel
theorem dX7_product_63 : decode cX7_product 63 = .ok (.aload_n 0, 1) := by decide +kernel
theorem dX7_product_64 : decode cX7_product 64 = .ok (.iload_n 1, 1) := by decide +kernel
theorem dX7_product_65 : decode cX7_product 65 = .ok (.invokevirtual 115, 3) := by decide +kernel
theorem dX7_product_68 : decode cX7_product 68 = .ok (.ifCond .ne 5, 3) := by decide +kernel
theorem dX7_product_71 : decode cX7_product 71 = .ok (.iconst 0, 1) := by decide +kernel
theorem dX7_product_72 : decode cX7_product 72 = .ok (.ireturn, 1) := by decide +kernel
theorem dX7_product_73 : decode cX7_product 73 = .ok (.aload_n 0, 1) := by decide +kernel
theorem dX7_product_74 : decode cX7_product 74 = .ok (.iload_n 3, 1) := by decide +kernel
theorem dX7_product_75 : decode cX7_product 75 = .ok (.iconst 0, 1) := by decide +kernel
theorem dX7_product_76 : decode cX7_product 76 = .ok (.iconst 0, 1) := by decide +kernel
theorem dX7_product_77 : decode cX7_product 77 = .ok (.invokevirtual 112, 3) := by decide +kernel
theorem dX7_product_80 : decode cX7_product 80 = .ok (.iinc 2 1, 3) := by decide +kernel
theorem dX7_product_83 : decode cX7_product 83 = .ok (.goto (-71), 3) := by decide +kernel
theorem dX7_product_86 : decode cX7_product 86 = .ok (.iconst 1, 1) := by decide +kernel
theorem dX7_product_87 : decode cX7_product 87 = .ok (.ireturn, 1) := by decide +kernel
theorem dX7_part_0 : decode cX7_part 0 = .ok (.aload_n 0, 1) := by decide +kernel
theorem dX7_part_1 : decode cX7_part 1 = .ok (.invokevirtual 118, 3) := by decide +kernel
theorem dX7_part_4 : decode cX7_part 4 = .ok (.ifCond .ne 9, 3) := by decide +kernel
theorem dX7_part_7 : decode cX7_part 7 = .ok (.aload_n 0, 1) := by decide +kernel
theorem dX7_part_8 : decode cX7_part 8 = .ok (.iconst 1, 1) := by decide +kernel
theorem dX7_part_9 : decode cX7_part 9 = .ok (.invokevirtual 61, 3) := by decide +kernel
theorem dX7_part_12 : decode cX7_part 12 = .ok (.ireturn, 1) := by decide +kernel
theorem dX7_part_13 : decode cX7_part 13 = .ok (.iload_n 1, 1) := by decide +kernel
theorem dX7_part_14 : decode cX7_part 14 = .ok (.bipush 8, 2) := by decide +kernel
theorem dX7_part_16 : decode cX7_part 16 = .ok (.if_icmp .lt 9, 3) := by decide +kernel
theorem dX7_part_19 : decode cX7_part 19 = .ok (.aload_n 0, 1) := by decide +kernel
theorem dX7_part_20 : decode cX7_part 20 = .ok (.iconst 5, 1) := by decide +kernel
theorem dX7_part_21 : decode cX7_part 21 = .ok (.invokevirtual 61, 3) := by decide +kernel
theorem dX7_part_24 : decode cX7_part 24 = .ok (.ireturn, 1) := by decide +kernel
theorem dX7_part_25 : decode cX7_part 25 = .ok (.aload_n 0, 1) := by decide +kernel
theorem dX7_part_26 : decode cX7_part 26 = .ok (.invokevirtual 57, 3) := by decide +kernel
theorem dX7_part_29 : decode cX7_part 29 = .ok (.lookupswitch 69 #[(40, 35), (45, 41), (110, 47)], 35) := by decide +kernel
theorem dX7_part_64 : decode cX7_part 64 = .ok (.aload_n 0, 1) := by decide +kernel
theorem dX7_part_65 : decode cX7_part 65 = .ok (.iload_n 1, 1) := by decide +kernel
theorem dX7_part_66 : decode cX7_part 66 = .ok (.invokevirtual 122, 3) := by decide +kernel
theorem dX7_part_69 : decode cX7_part 69 = .ok (.ireturn, 1) := by decide +kernel
theorem dX7_part_70 : decode cX7_part 70 = .ok (.aload_n 0, 1) := by decide +kernel
theorem dX7_part_71 : decode cX7_part 71 = .ok (.iload_n 1, 1) := by decide +kernel
theorem dX7_part_72 : decode cX7_part 72 = .ok (.invokevirtual 125, 3) := by decide +kernel
theorem dX7_part_75 : decode cX7_part 75 = .ok (.ireturn, 1) := by decide +kernel
theorem dX7_part_76 : decode cX7_part 76 = .ok (.aload_n 0, 1) := by decide +kernel
theorem dX7_part_77 : decode cX7_part 77 = .ok (.iconst 0, 1) := by decide +kernel
theorem dX7_part_78 : decode cX7_part 78 = .ok (.aload_n 0, 1) := by decide +kernel
theorem dX7_part_79 : decode cX7_part 79 = .ok (.invokevirtual 128, 3) := by decide +kernel
theorem dX7_part_82 : decode cX7_part 82 = .ok (.iconst 0, 1) := by decide +kernel
theorem dX7_part_83 : decode cX7_part 83 = .ok (.invokevirtual 112, 3) := by decide +kernel
theorem dX7_part_86 : decode cX7_part 86 = .ok (.aload_n 0, 1) := by decide +kernel
theorem dX7_part_87 : decode cX7_part 87 = .ok (.dup, 1) := by decide +kernel
theorem dX7_part_88 : decode cX7_part 88 = .ok (.getfield 50, 3) := by decide +kernel
theorem dX7_part_91 : decode cX7_part 91 = .ok (.iconst 1, 1) := by decide +kernel
theorem dX7_part_92 : decode cX7_part 92 = .ok (.iadd, 1) := by decide +kernel
theorem dX7_part_93 : decode cX7_part 93 = .ok (.putfield 50, 3) := by decide +kernel
theorem dX7_part_96 : decode cX7_part 96 = .ok (.iconst 1, 1) := by decide +kernel
theorem dX7_part_97 : decode cX7_part 97 = .ok (.ireturn, 1) := by decide +kernel
theorem dX7_part_98 : decode cX7_part 98 = .ok (.aload_n 0, 1) := by decide +kernel
theorem dX7_part_99 : decode cX7_part 99 = .ok (.invokevirtual 57, 3) := by decide +kernel
theorem dX7_part_102 : decode cX7_part 102 = .ok (.bipush 119, 2) := by decide +kernel
theorem dX7_part_104 : decode cX7_part 104 = .ok (.if_icmp .ne 19, 3) := by decide +kernel
theorem dX7_part_107 : decode cX7_part 107 = .ok (.aload_n 0, 1) := by decide +kernel
theorem dX7_part_108 : decode cX7_part 108 = .ok (.invokevirtual 128, 3) := by decide +kernel
theorem dX7_part_111 : decode cX7_part 111 = .ok (.bipush 26, 2) := by decide +kernel
theorem dX7_part_113 : decode cX7_part 113 = .ok (.if_icmp .ne 10, 3) := by decide +kernel
theorem dX7_part_116 : decode cX7_part 116 = .ok (.aload_n 0, 1) := by decide +kernel
theorem dX7_part_117 : decode cX7_part 117 = .ok (.invokevirtual 131, 3) := by decide +kernel
theorem dX7_part_120 : decode cX7_part 120 = .ok (.goto 7, 3) := by decide +kernel
theorem dX7_part_123 : decode cX7_part 123 = .ok (.aload_n 0, 1) := by decide +kernel
theorem dX7_part_124 : decode cX7_part 124 = .ok (.invokevirtual 134, 3) := by decide +kernel
theorem dX7_part_127 : decode cX7_part 127 = .ok (.ireturn, 1) := by decide +kernel
theorem dX7_startsPart_0 : decode cX7_startsPart 0 = .ok (.aload_n 0, 1) := by decide +kernel
theorem dX7_startsPart_1 : decode cX7_startsPart 1 = .ok (.invokevirtual 57, 3) := by decide +kernel
theorem dX7_startsPart_4 : decode cX7_startsPart 4 = .ok (.bipush 119, 2) := by decide +kernel
theorem dX7_startsPart_6 : decode cX7_startsPart 6 = .ok (.if_icmp .ne 27, 3) := by decide +kernel
theorem dX7_startsPart_9 : decode cX7_startsPart 9 = .ok (.aload_n 0, 1) := by decide +kernel
theorem dX7_startsPart_10 : decode cX7_startsPart 10 = .ok (.invokevirtual 128, 3) := by decide +kernel
theorem dX7_startsPart_13 : decode cX7_startsPart 13 = .ok (.bipush 12, 2) := by decide +kernel
theorem dX7_startsPart_15 : decode cX7_startsPart 15 = .ok (.if_icmp .lt 12, 3) := by decide +kernel
theorem dX7_startsPart_18 : decode cX7_startsPart 18 = .ok (.aload_n 0, 1) := by decide +kernel
theorem dX7_startsPart_19 : decode cX7_startsPart 19 = .ok (.invokevirtual 128, 3) := by decide +kernel
theorem dX7_startsPart_22 : decode cX7_startsPart 22 = .ok (.bipush 26, 2) := by decide +kernel
theorem dX7_startsPart_24 : decode cX7_startsPart 24 = .ok (.if_icmp .ne 7, 3) := by decide +kernel
theorem dX7_startsPart_27 : decode cX7_startsPart 27 = .ok (.iconst 1, 1) := by decide +kernel
theorem dX7_startsPart_28 : decode cX7_startsPart 28 = .ok (.goto 4, 3) := by decide +kernel
theorem dX7_startsPart_31 : decode cX7_startsPart 31 = .ok (.iconst 0, 1) := by decide +kernel
theorem dX7_startsPart_32 : decode cX7_startsPart 32 = .ok (.ireturn, 1) := by decide +kernel
theorem dX7_startsPart_33 : decode cX7_startsPart 33 = .ok (.aload_n 0, 1) := by decide +kernel
theorem dX7_startsPart_34 : decode cX7_startsPart 34 = .ok (.invokevirtual 57, 3) := by decide +kernel
theorem dX7_startsPart_37 : decode cX7_startsPart 37 = .ok (.bipush 110, 2) := by decide +kernel
theorem dX7_startsPart_39 : decode cX7_startsPart 39 = .ok (.if_icmp .eq 30, 3) := by decide +kernel
theorem dX7_startsPart_42 : decode cX7_startsPart 42 = .ok (.aload_n 0, 1) := by decide +kernel
theorem dX7_startsPart_43 : decode cX7_startsPart 43 = .ok (.invokevirtual 57, 3) := by decide +kernel
theorem dX7_startsPart_46 : decode cX7_startsPart 46 = .ok (.bipush 40, 2) := by decide +kernel
theorem dX7_startsPart_48 : decode cX7_startsPart 48 = .ok (.if_icmp .eq 21, 3) := by decide +kernel
theorem dX7_startsPart_51 : decode cX7_startsPart 51 = .ok (.aload_n 0, 1) := by decide +kernel
theorem dX7_startsPart_52 : decode cX7_startsPart 52 = .ok (.invokevirtual 57, 3) := by decide +kernel
theorem dX7_startsPart_55 : decode cX7_startsPart 55 = .ok (.bipush 45, 2) := by decide +kernel
theorem dX7_startsPart_57 : decode cX7_startsPart 57 = .ok (.if_icmp .eq 12, 3) := by decide +kernel
theorem dX7_startsPart_60 : decode cX7_startsPart 60 = .ok (.aload_n 0, 1) := by decide +kernel
theorem dX7_startsPart_61 : decode cX7_startsPart 61 = .ok (.invokevirtual 57, 3) := by decide +kernel
theorem dX7_startsPart_64 : decode cX7_startsPart 64 = .ok (.bipush 36, 2) := by decide +kernel
theorem dX7_startsPart_66 : decode cX7_startsPart 66 = .ok (.if_icmp .ne 7, 3) := by decide +kernel
theorem dX7_startsPart_69 : decode cX7_startsPart 69 = .ok (.iconst 1, 1) := by decide +kernel
theorem dX7_startsPart_70 : decode cX7_startsPart 70 = .ok (.goto 4, 3) := by decide +kernel
theorem dX7_startsPart_73 : decode cX7_startsPart 73 = .ok (.iconst 0, 1) := by decide +kernel
theorem dX7_startsPart_74 : decode cX7_startsPart 74 = .ok (.ireturn, 1) := by decide +kernel
end
section
theorem dX8_init_0 : decode cX8_init 0 = .ok (.aload_n 0, 1) := by decide +kernel
theorem dX8_init_1 : decode cX8_init 1 = .ok (.invokespecial 3, 3) := by decide +kernel
theorem dX8_init_4 : decode cX8_init 4 = .ok (.aload_n 0, 1) := by decide +kernel
theorem dX8_init_5 : decode cX8_init 5 = .ok (.aload_n 1, 1) := by decide +kernel
theorem dX8_init_6 : decode cX8_init 6 = .ok (.putfield 9, 3) := by decide +kernel
theorem dX8_init_9 : decode cX8_init 9 = .ok (.aload_n 0, 1) := by decide +kernel
theorem dX8_init_10 : decode cX8_init 10 = .ok (.aload_n 2, 1) := by decide +kernel
theorem dX8_init_11 : decode cX8_init 11 = .ok (.putfield 15, 3) := by decide +kernel
theorem dX8_init_14 : decode cX8_init 14 = .ok (.aload_n 0, 1) := by decide +kernel
theorem dX8_init_15 : decode cX8_init 15 = .ok (.sipush 288, 3) := by decide +kernel
theorem dX8_init_18 : decode cX8_init 18 = .ok (.newarray .boolean, 2) := by decide +kernel
theorem dX8_init_20 : decode cX8_init 20 = .ok (.putfield 19, 3) := by decide +kernel
theorem dX8_init_23 : decode cX8_init 23 = .ok (.aload_n 0, 1) := by decide +kernel
theorem dX8_init_24 : decode cX8_init 24 = .ok (.sipush 288, 3) := by decide +kernel
theorem dX8_init_27 : decode cX8_init 27 = .ok (.newarray .int, 2) := by decide +kernel
theorem dX8_init_29 : decode cX8_init 29 = .ok (.putfield 23, 3) := by decide +kernel
theorem dX8_init_32 : decode cX8_init 32 = .ok (.aload_n 0, 1) := by decide +kernel
theorem dX8_init_33 : decode cX8_init 33 = .ok (.sipush 288, 3) := by decide +kernel
theorem dX8_init_36 : decode cX8_init 36 = .ok (.newarray .int, 2) := by decide +kernel
theorem dX8_init_38 : decode cX8_init 38 = .ok (.putfield 27, 3) := by decide +kernel
theorem dX8_init_41 : decode cX8_init 41 = .ok (.aload_n 0, 1) := by decide +kernel
theorem dX8_init_42 : decode cX8_init 42 = .ok (.sipush 1440, 3) := by decide +kernel
theorem dX8_init_45 : decode cX8_init 45 = .ok (.newarray .long, 2) := by decide +kernel
theorem dX8_init_47 : decode cX8_init 47 = .ok (.putfield 30, 3) := by decide +kernel
theorem dX8_init_50 : decode cX8_init 50 = .ok (.aload_n 0, 1) := by decide +kernel
theorem dX8_init_51 : decode cX8_init 51 = .ok (.sipush 1440, 3) := by decide +kernel
theorem dX8_init_54 : decode cX8_init 54 = .ok (.newarray .long, 2) := by decide +kernel
theorem dX8_init_56 : decode cX8_init 56 = .ok (.putfield 34, 3) := by decide +kernel
theorem dX8_init_59 : decode cX8_init 59 = .ok (.aload_n 0, 1) := by decide +kernel
theorem dX8_init_60 : decode cX8_init 60 = .ok (.iconst (-1), 1) := by decide +kernel
theorem dX8_init_61 : decode cX8_init 61 = .ok (.putfield 37, 3) := by decide +kernel
theorem dX8_init_64 : decode cX8_init 64 = .ok (.return_, 1) := by decide +kernel
theorem dX8_settle_0 : decode cX8_settle 0 = .ok (.aload_n 0, 1) := by decide +kernel
theorem dX8_settle_1 : decode cX8_settle 1 = .ok (.getfield 37, 3) := by decide +kernel
theorem dX8_settle_4 : decode cX8_settle 4 = .ok (.aload_n 0, 1) := by decide +kernel
theorem dX8_settle_5 : decode cX8_settle 5 = .ok (.getfield 9, 3) := by decide +kernel
theorem dX8_settle_8 : decode cX8_settle 8 = .ok (.getfield 41, 3) := by decide +kernel
theorem dX8_settle_11 : decode cX8_settle 11 = .ok (.if_icmp .ne 4, 3) := by decide +kernel
theorem dX8_settle_14 : decode cX8_settle 14 = .ok (.return_, 1) := by decide +kernel
theorem dX8_settle_15 : decode cX8_settle 15 = .ok (.aload_n 0, 1) := by decide +kernel
theorem dX8_settle_16 : decode cX8_settle 16 = .ok (.aload_n 0, 1) := by decide +kernel
theorem dX8_settle_17 : decode cX8_settle 17 = .ok (.getfield 9, 3) := by decide +kernel
theorem dX8_settle_20 : decode cX8_settle 20 = .ok (.getfield 41, 3) := by decide +kernel
theorem dX8_settle_23 : decode cX8_settle 23 = .ok (.putfield 37, 3) := by decide +kernel
theorem dX8_settle_26 : decode cX8_settle 26 = .ok (.aload_n 0, 1) := by decide +kernel
theorem dX8_settle_27 : decode cX8_settle 27 = .ok (.getfield 15, 3) := by decide +kernel
theorem dX8_settle_30 : decode cX8_settle 30 = .ok (.invokevirtual 44, 3) := by decide +kernel
theorem dX8_settle_33 : decode cX8_settle 33 = .ok (.iconst 0, 1) := by decide +kernel
theorem dX8_settle_34 : decode cX8_settle 34 = .ok (.istore_n 1, 1) := by decide +kernel
theorem dX8_settle_35 : decode cX8_settle 35 = .ok (.iload_n 1, 1) := by decide +kernel
theorem dX8_settle_36 : decode cX8_settle 36 = .ok (.sipush 288, 3) := by decide +kernel
theorem dX8_settle_39 : decode cX8_settle 39 = .ok (.if_icmp .ge 51, 3) := by decide +kernel
theorem dX8_settle_42 : decode cX8_settle 42 = .ok (.aload_n 0, 1) := by decide +kernel
theorem dX8_settle_43 : decode cX8_settle 43 = .ok (.getfield 9, 3) := by decide +kernel
theorem dX8_settle_46 : decode cX8_settle 46 = .ok (.iload_n 1, 1) := by decide +kernel
theorem dX8_settle_47 : decode cX8_settle 47 = .ok (.invokevirtual 49, 3) := by decide +kernel
theorem dX8_settle_50 : decode cX8_settle 50 = .ok (.astore_n 2, 1) := by decide +kernel
theorem dX8_settle_51 : decode cX8_settle 51 = .ok (.aload_n 0, 1) := by decide +kernel
theorem dX8_settle_52 : decode cX8_settle 52 = .ok (.getfield 19, 3) := by decide +kernel
theorem dX8_settle_55 : decode cX8_settle 55 = .ok (.iload_n 1, 1) := by decide +kernel
theorem dX8_settle_56 : decode cX8_settle 56 = .ok (.aload_n 2, 1) := by decide +kernel
theorem dX8_settle_57 : decode cX8_settle 57 = .ok (.ifnull 25, 3) := by decide +kernel
theorem dX8_settle_60 : decode cX8_settle 60 = .ok (.aload_n 2, 1) := by decide +kernel
theorem dX8_settle_61 : decode cX8_settle 61 = .ok (.invokevirtual 53, 3) := by decide +kernel
theorem dX8_settle_64 : decode cX8_settle 64 = .ok (.ifCond .eq 18, 3) := by decide +kernel
theorem dX8_settle_67 : decode cX8_settle 67 = .ok (.aload_n 0, 1) := by decide +kernel
theorem dX8_settle_68 : decode cX8_settle 68 = .ok (.getfield 15, 3) := by decide +kernel
theorem dX8_settle_71 : decode cX8_settle 71 = .ok (.iload_n 1, 1) := by decide +kernel
theorem dX8_settle_72 : decode cX8_settle 72 = .ok (.invokevirtual 59, 3) := by decide +kernel
theorem dX8_settle_75 : decode cX8_settle 75 = .ok (.ifCond .ne 7, 3) := by decide +kernel
theorem dX8_settle_78 : decode cX8_settle 78 = .ok (.iconst 1, 1) := by decide +kernel
theorem dX8_settle_79 : decode cX8_settle 79 = .ok (.goto 4, 3) := by decide +kernel
theorem dX8_settle_82 : decode cX8_settle 82 = .ok (.iconst 0, 1) := by decide +kernel
theorem dX8_settle_83 : decode cX8_settle 83 = .ok (.bastore, 1) := by decide +kernel
theorem dX8_settle_84 : decode cX8_settle 84 = .ok (.iinc 1 1, 3) := by decide +kernel
theorem dX8_settle_87 : decode cX8_settle 87 = .ok (.goto (-52), 3) := by decide +kernel
theorem dX8_settle_90 : decode cX8_settle 90 = .ok (.return_, 1) := by decide +kernel
theorem dX8_isTotal_0 : decode cX8_isTotal 0 = .ok (.iload_n 1, 1) := by decide +kernel
theorem dX8_isTotal_1 : decode cX8_isTotal 1 = .ok (.invokestatic 63, 3) := by decide +kernel
theorem dX8_isTotal_4 : decode cX8_isTotal 4 = .ok (.ifCond .eq 16, 3) := by decide +kernel
theorem dX8_isTotal_7 : decode cX8_isTotal 7 = .ok (.aload_n 0, 1) := by decide +kernel
theorem dX8_isTotal_8 : decode cX8_isTotal 8 = .ok (.getfield 19, 3) := by decide +kernel
theorem dX8_isTotal_11 : decode cX8_isTotal 11 = .ok (.iload_n 1, 1) := by decide +kernel
theorem dX8_isTotal_12 : decode cX8_isTotal 12 = .ok (.baload, 1) := by decide +kernel
theorem dX8_isTotal_13 : decode cX8_isTotal 13 = .ok (.ifCond .eq 7, 3) := by decide +kernel
theorem dX8_isTotal_16 : decode cX8_isTotal 16 = .ok (.iconst 1, 1) := by decide +kernel
theorem dX8_isTotal_17 : decode cX8_isTotal 17 = .ok (.goto 4, 3) := by decide +kernel
theorem dX8_isTotal_20 : decode cX8_isTotal 20 = .ok (.iconst 0, 1) := by decide +kernel
theorem dX8_isTotal_21 : decode cX8_isTotal 21 = .ok (.ireturn, 1) := by decide +kernel
theorem dX8_gatherTwice_0 : decode cX8_gatherTwice 0 = .ok (.iconst 0, 1) := by decide +kernel
theorem dX8_gatherTwice_1 : decode cX8_gatherTwice 1 = .ok (.istore_n 1, 1) := by decide +kernel
theorem dX8_gatherTwice_2 : decode cX8_gatherTwice 2 = .ok (.iload_n 1, 1) := by decide +kernel
theorem dX8_gatherTwice_3 : decode cX8_gatherTwice 3 = .ok (.aload_n 0, 1) := by decide +kernel
theorem dX8_gatherTwice_4 : decode cX8_gatherTwice 4 = .ok (.getfield 15, 3) := by decide +kernel
theorem dX8_gatherTwice_7 : decode cX8_gatherTwice 7 = .ok (.invokevirtual 73, 3) := by decide +kernel
theorem dX8_gatherTwice_10 : decode cX8_gatherTwice 10 = .ok (.if_icmp .ge 50, 3) := by decide +kernel
theorem dX8_gatherTwice_13 : decode cX8_gatherTwice 13 = .ok (.aload_n 0, 1) := by decide +kernel
theorem dX8_gatherTwice_14 : decode cX8_gatherTwice 14 = .ok (.getfield 15, 3) := by decide +kernel
theorem dX8_gatherTwice_17 : decode cX8_gatherTwice 17 = .ok (.iload_n 1, 1) := by decide +kernel
theorem dX8_gatherTwice_18 : decode cX8_gatherTwice 18 = .ok (.invokevirtual 77, 3) := by decide +kernel
theorem dX8_gatherTwice_21 : decode cX8_gatherTwice 21 = .ok (.istore_n 2, 1) := by decide +kernel
theorem dX8_gatherTwice_22 : decode cX8_gatherTwice 22 = .ok (.aload_n 0, 1) := by decide +kernel
theorem dX8_gatherTwice_23 : decode cX8_gatherTwice 23 = .ok (.getfield 9, 3) := by decide +kernel
theorem dX8_gatherTwice_26 : decode cX8_gatherTwice 26 = .ok (.iload_n 2, 1) := by decide +kernel
theorem dX8_gatherTwice_27 : decode cX8_gatherTwice 27 = .ok (.invokevirtual 49, 3) := by decide +kernel
theorem dX8_gatherTwice_30 : decode cX8_gatherTwice 30 = .ok (.astore_n 3, 1) := by decide +kernel
theorem dX8_gatherTwice_31 : decode cX8_gatherTwice 31 = .ok (.aload_n 0, 1) := by decide +kernel
theorem dX8_gatherTwice_32 : decode cX8_gatherTwice 32 = .ok (.iload_n 2, 1) := by decide +kernel
theorem dX8_gatherTwice_33 : decode cX8_gatherTwice 33 = .ok (.invokevirtual 66, 3) := by decide +kernel
theorem dX8_gatherTwice_36 : decode cX8_gatherTwice 36 = .ok (.ifCond .eq 18, 3) := by decide +kernel
theorem dX8_gatherTwice_39 : decode cX8_gatherTwice 39 = .ok (.aload_n 3, 1) := by decide +kernel
theorem dX8_gatherTwice_40 : decode cX8_gatherTwice 40 = .ok (.ifnull 14, 3) := by decide +kernel
theorem dX8_gatherTwice_43 : decode cX8_gatherTwice 43 = .ok (.aload_n 0, 1) := by decide +kernel
theorem dX8_gatherTwice_44 : decode cX8_gatherTwice 44 = .ok (.iload_n 2, 1) := by decide +kernel
theorem dX8_gatherTwice_45 : decode cX8_gatherTwice 45 = .ok (.invokevirtual 103, 3) := by decide +kernel
theorem dX8_gatherTwice_48 : decode cX8_gatherTwice 48 = .ok (.aload_n 0, 1) := by decide +kernel
theorem dX8_gatherTwice_49 : decode cX8_gatherTwice 49 = .ok (.iload_n 2, 1) := by decide +kernel
theorem dX8_gatherTwice_50 : decode cX8_gatherTwice 50 = .ok (.aload_n 3, 1) := by decide +kernel
theorem dX8_gatherTwice_51 : decode cX8_gatherTwice 51 = .ok (.invokevirtual 107, 3) := by decide +kernel
theorem dX8_gatherTwice_54 : decode cX8_gatherTwice 54 = .ok (.iinc 1 1, 3) := by decide +kernel
theorem dX8_gatherTwice_57 : decode cX8_gatherTwice 57 = .ok (.goto (-55), 3) := by decide +kernel
theorem dX8_gatherTwice_60 : decode cX8_gatherTwice 60 = .ok (.return_, 1) := by decide +kernel
theorem dX9_init_0 : decode cX9_init 0 = .ok (.aload_n 0, 1) := by decide +kernel
theorem dX9_init_1 : decode cX9_init 1 = .ok (.invokespecial 3, 3) := by decide +kernel
theorem dX9_init_4 : decode cX9_init 4 = .ok (.aload_n 0, 1) := by decide +kernel
theorem dX9_init_5 : decode cX9_init 5 = .ok (.aload_n 1, 1) := by decide +kernel
theorem dX9_init_6 : decode cX9_init 6 = .ok (.putfield 9, 3) := by decide +kernel
theorem dX9_init_9 : decode cX9_init 9 = .ok (.aload_n 0, 1) := by decide +kernel
theorem dX9_init_10 : decode cX9_init 10 = .ok (.aload_n 2, 1) := by decide +kernel
theorem dX9_init_11 : decode cX9_init 11 = .ok (.putfield 15, 3) := by decide +kernel
theorem dX9_init_14 : decode cX9_init 14 = .ok (.aload_n 0, 1) := by decide +kernel
theorem dX9_init_15 : decode cX9_init 15 = .ok (.sipush 864, 3) := by decide +kernel
theorem dX9_init_18 : decode cX9_init 18 = .ok (.newarray .int, 2) := by decide +kernel
theorem dX9_init_20 : decode cX9_init 20 = .ok (.putfield 19, 3) := by decide +kernel
theorem dX9_init_23 : decode cX9_init 23 = .ok (.aload_n 0, 1) := by decide +kernel
theorem dX9_init_24 : decode cX9_init 24 = .ok (.sipush 288, 3) := by decide +kernel
theorem dX9_init_27 : decode cX9_init 27 = .ok (.newarray .boolean, 2) := by decide +kernel
theorem dX9_init_29 : decode cX9_init 29 = .ok (.putfield 23, 3) := by decide +kernel
theorem dX9_init_32 : decode cX9_init 32 = .ok (.aload_n 0, 1) := by decide +kernel
theorem dX9_init_33 : decode cX9_init 33 = .ok (.sipush 288, 3) := by decide +kernel
theorem dX9_init_36 : decode cX9_init 36 = .ok (.newarray .int, 2) := by decide +kernel
theorem dX9_init_38 : decode cX9_init 38 = .ok (.putfield 27, 3) := by decide +kernel
theorem dX9_init_41 : decode cX9_init 41 = .ok (.aload_n 0, 1) := by decide +kernel
theorem dX9_init_42 : decode cX9_init 42 = .ok (.bipush 96, 2) := by decide +kernel
theorem dX9_init_44 : decode cX9_init 44 = .ok (.newarray .int, 2) := by decide +kernel
theorem dX9_init_46 : decode cX9_init 46 = .ok (.putfield 30, 3) := by decide +kernel
theorem dX9_init_49 : decode cX9_init 49 = .ok (.aload_n 0, 1) := by decide +kernel
theorem dX9_init_50 : decode cX9_init 50 = .ok (.iconst (-1), 1) := by decide +kernel
theorem dX9_init_51 : decode cX9_init 51 = .ok (.putfield 33, 3) := by decide +kernel
theorem dX9_init_54 : decode cX9_init 54 = .ok (.return_, 1) := by decide +kernel
theorem dX9_settle_0 : decode cX9_settle 0 = .ok (.aload_n 0, 1) := by decide +kernel
theorem dX9_settle_1 : decode cX9_settle 1 = .ok (.getfield 33, 3) := by decide +kernel
theorem dX9_settle_4 : decode cX9_settle 4 = .ok (.aload_n 0, 1) := by decide +kernel
theorem dX9_settle_5 : decode cX9_settle 5 = .ok (.getfield 9, 3) := by decide +kernel
theorem dX9_settle_8 : decode cX9_settle 8 = .ok (.getfield 37, 3) := by decide +kernel
theorem dX9_settle_11 : decode cX9_settle 11 = .ok (.if_icmp .ne 4, 3) := by decide +kernel
theorem dX9_settle_14 : decode cX9_settle 14 = .ok (.return_, 1) := by decide +kernel
theorem dX9_settle_15 : decode cX9_settle 15 = .ok (.aload_n 0, 1) := by decide +kernel
theorem dX9_settle_16 : decode cX9_settle 16 = .ok (.aload_n 0, 1) := by decide +kernel
theorem dX9_settle_17 : decode cX9_settle 17 = .ok (.getfield 9, 3) := by decide +kernel
theorem dX9_settle_20 : decode cX9_settle 20 = .ok (.getfield 37, 3) := by decide +kernel
theorem dX9_settle_23 : decode cX9_settle 23 = .ok (.putfield 33, 3) := by decide +kernel
theorem dX9_settle_26 : decode cX9_settle 26 = .ok (.aload_n 0, 1) := by decide +kernel
theorem dX9_settle_27 : decode cX9_settle 27 = .ok (.getfield 15, 3) := by decide +kernel
theorem dX9_settle_30 : decode cX9_settle 30 = .ok (.invokevirtual 40, 3) := by decide +kernel
theorem dX9_settle_33 : decode cX9_settle 33 = .ok (.iconst 0, 1) := by decide +kernel
theorem dX9_settle_34 : decode cX9_settle 34 = .ok (.istore_n 1, 1) := by decide +kernel
theorem dX9_settle_35 : decode cX9_settle 35 = .ok (.iload_n 1, 1) := by decide +kernel
theorem dX9_settle_36 : decode cX9_settle 36 = .ok (.sipush 288, 3) := by decide +kernel
theorem dX9_settle_39 : decode cX9_settle 39 = .ok (.if_icmp .ge 65, 3) := by decide +kernel
theorem dX9_settle_42 : decode cX9_settle 42 = .ok (.aload_n 0, 1) := by decide +kernel
theorem dX9_settle_43 : decode cX9_settle 43 = .ok (.getfield 9, 3) := by decide +kernel
theorem dX9_settle_46 : decode cX9_settle 46 = .ok (.iload_n 1, 1) := by decide +kernel
theorem dX9_settle_47 : decode cX9_settle 47 = .ok (.invokevirtual 45, 3) := by decide +kernel
theorem dX9_settle_50 : decode cX9_settle 50 = .ok (.astore_n 2, 1) := by decide +kernel
theorem dX9_settle_51 : decode cX9_settle 51 = .ok (.aload_n 0, 1) := by decide +kernel
theorem dX9_settle_52 : decode cX9_settle 52 = .ok (.getfield 19, 3) := by decide +kernel
theorem dX9_settle_55 : decode cX9_settle 55 = .ok (.iload_n 1, 1) := by decide +kernel
theorem dX9_settle_56 : decode cX9_settle 56 = .ok (.iconst 3, 1) := by decide +kernel
theorem dX9_settle_57 : decode cX9_settle 57 = .ok (.imul, 1) := by decide +kernel
theorem dX9_settle_58 : decode cX9_settle 58 = .ok (.aload_n 2, 1) := by decide +kernel
theorem dX9_settle_59 : decode cX9_settle 59 = .ok (.getfield 49, 3) := by decide +kernel
theorem dX9_settle_62 : decode cX9_settle 62 = .ok (.iastore, 1) := by decide +kernel
theorem dX9_settle_63 : decode cX9_settle 63 = .ok (.aload_n 0, 1) := by decide +kernel
theorem dX9_settle_64 : decode cX9_settle 64 = .ok (.getfield 19, 3) := by decide +kernel
theorem dX9_settle_67 : decode cX9_settle 67 = .ok (.iload_n 1, 1) := by decide +kernel
theorem dX9_settle_68 : decode cX9_settle 68 = .ok (.iconst 3, 1) := by decide +kernel
theorem dX9_settle_69 : decode cX9_settle 69 = .ok (.imul, 1) := by decide +kernel
theorem dX9_settle_70 : decode cX9_settle 70 = .ok (.iconst 1, 1) := by decide +kernel
theorem dX9_settle_71 : decode cX9_settle 71 = .ok (.iadd, 1) := by decide +kernel
theorem dX9_settle_72 : decode cX9_settle 72 = .ok (.aload_n 2, 1) := by decide +kernel
theorem dX9_settle_73 : decode cX9_settle 73 = .ok (.getfield 54, 3) := by decide +kernel
theorem dX9_settle_76 : decode cX9_settle 76 = .ok (.iastore, 1) := by decide +kernel
theorem dX9_settle_77 : decode cX9_settle 77 = .ok (.aload_n 0, 1) := by decide +kernel
theorem dX9_settle_78 : decode cX9_settle 78 = .ok (.getfield 19, 3) := by decide +kernel
theorem dX9_settle_81 : decode cX9_settle 81 = .ok (.iload_n 1, 1) := by decide +kernel
theorem dX9_settle_82 : decode cX9_settle 82 = .ok (.iconst 3, 1) := by decide +kernel
theorem dX9_settle_83 : decode cX9_settle 83 = .ok (.imul, 1) := by decide +kernel
theorem dX9_settle_84 : decode cX9_settle 84 = .ok (.iconst 2, 1) := by decide +kernel
theorem dX9_settle_85 : decode cX9_settle 85 = .ok (.iadd, 1) := by decide +kernel
theorem dX9_settle_86 : decode cX9_settle 86 = .ok (.aload_n 2, 1) := by decide +kernel
theorem dX9_settle_87 : decode cX9_settle 87 = .ok (.getfield 57, 3) := by decide +kernel
theorem dX9_settle_90 : decode cX9_settle 90 = .ok (.iastore, 1) := by decide +kernel
theorem dX9_settle_91 : decode cX9_settle 91 = .ok (.aload_n 0, 1) := by decide +kernel
theorem dX9_settle_92 : decode cX9_settle 92 = .ok (.getfield 23, 3) := by decide +kernel
theorem dX9_settle_95 : decode cX9_settle 95 = .ok (.iload_n 1, 1) := by decide +kernel
theorem dX9_settle_96 : decode cX9_settle 96 = .ok (.iconst 0, 1) := by decide +kernel
theorem dX9_settle_97 : decode cX9_settle 97 = .ok (.bastore, 1) := by decide +kernel
theorem dX9_settle_98 : decode cX9_settle 98 = .ok (.iinc 1 1, 3) := by decide +kernel
theorem dX9_settle_101 : decode cX9_settle 101 = .ok (.goto (-66), 3) := by decide +kernel
theorem dX9_settle_104 : decode cX9_settle 104 = .ok (.iconst 0, 1) := by decide +kernel
theorem dX9_settle_105 : decode cX9_settle 105 = .ok (.istore_n 1, 1) := by decide +kernel
theorem dX9_settle_106 : decode cX9_settle 106 = .ok (.iload_n 1, 1) := by decide +kernel
theorem dX9_settle_107 : decode cX9_settle 107 = .ok (.aload_n 0, 1) := by decide +kernel
theorem dX9_settle_108 : decode cX9_settle 108 = .ok (.getfield 15, 3) := by decide +kernel
theorem dX9_settle_111 : decode cX9_settle 111 = .ok (.invokevirtual 60, 3) := by decide +kernel
theorem dX9_settle_114 : decode cX9_settle 114 = .ok (.if_icmp .ge 55, 3) := by decide +kernel
theorem dX9_settle_117 : decode cX9_settle 117 = .ok (.aload_n 0, 1) := by decide +kernel
theorem dX9_settle_118 : decode cX9_settle 118 = .ok (.getfield 15, 3) := by decide +kernel
theorem dX9_settle_121 : decode cX9_settle 121 = .ok (.iload_n 1, 1) := by decide +kernel
theorem dX9_settle_122 : decode cX9_settle 122 = .ok (.invokevirtual 64, 3) := by decide +kernel
theorem dX9_settle_125 : decode cX9_settle 125 = .ok (.istore_n 2, 1) := by decide +kernel
theorem dX9_settle_126 : decode cX9_settle 126 = .ok (.aload_n 0, 1) := by decide +kernel
theorem dX9_settle_127 : decode cX9_settle 127 = .ok (.getfield 9, 3) := by decide +kernel
theorem dX9_settle_130 : decode cX9_settle 130 = .ok (.iload_n 2, 1) := by decide +kernel
theorem dX9_settle_131 : decode cX9_settle 131 = .ok (.invokevirtual 68, 3) := by decide +kernel
theorem dX9_settle_134 : decode cX9_settle 134 = .ok (.astore_n 3, 1) := by decide +kernel
theorem dX9_settle_135 : decode cX9_settle 135 = .ok (.iload_n 2, 1) := by decide +kernel
theorem dX9_settle_136 : decode cX9_settle 136 = .ok (.invokestatic 72, 3) := by decide +kernel
theorem dX9_settle_139 : decode cX9_settle 139 = .ok (.ifCond .eq 24, 3) := by decide +kernel
theorem dX9_settle_142 : decode cX9_settle 142 = .ok (.aload_n 3, 1) := by decide +kernel
theorem dX9_settle_143 : decode cX9_settle 143 = .ok (.ifnull 20, 3) := by decide +kernel
theorem dX9_settle_146 : decode cX9_settle 146 = .ok (.aload_n 0, 1) := by decide +kernel
theorem dX9_settle_147 : decode cX9_settle 147 = .ok (.getfield 15, 3) := by decide +kernel
theorem dX9_settle_150 : decode cX9_settle 150 = .ok (.iload_n 2, 1) := by decide +kernel
theorem dX9_settle_151 : decode cX9_settle 151 = .ok (.invokevirtual 76, 3) := by decide +kernel
theorem dX9_settle_154 : decode cX9_settle 154 = .ok (.ifCond .ne 9, 3) := by decide +kernel
theorem dX9_settle_157 : decode cX9_settle 157 = .ok (.aload_n 0, 1) := by decide +kernel
theorem dX9_settle_158 : decode cX9_settle 158 = .ok (.iload_n 2, 1) := by decide +kernel
theorem dX9_settle_159 : decode cX9_settle 159 = .ok (.aload_n 3, 1) := by decide +kernel
theorem dX9_settle_160 : decode cX9_settle 160 = .ok (.invokevirtual 79, 3) := by decide +kernel
theorem dX9_settle_163 : decode cX9_settle 163 = .ok (.iinc 1 1, 3) := by decide +kernel
theorem dX9_settle_166 : decode cX9_settle 166 = .ok (.goto (-60), 3) := by decide +kernel
theorem dX9_settle_169 : decode cX9_settle 169 = .ok (.return_, 1) := by decide +kernel
theorem dX9_exponentAt_0 : decode cX9_exponentAt 0 = .ok (.iload_n 1, 1) := by decide +kernel
theorem dX9_exponentAt_1 : decode cX9_exponentAt 1 = .ok (.invokestatic 72, 3) := by decide +kernel
theorem dX9_exponentAt_4 : decode cX9_exponentAt 4 = .ok (.ifCond .eq 25, 3) := by decide +kernel
theorem dX9_exponentAt_7 : decode cX9_exponentAt 7 = .ok (.iload_n 2, 1) := by decide +kernel
theorem dX9_exponentAt_8 : decode cX9_exponentAt 8 = .ok (.ifCond .lt 21, 3) := by decide +kernel
theorem dX9_exponentAt_11 : decode cX9_exponentAt 11 = .ok (.iload_n 2, 1) := by decide +kernel
theorem dX9_exponentAt_12 : decode cX9_exponentAt 12 = .ok (.iconst 3, 1) := by decide +kernel
theorem dX9_exponentAt_13 : decode cX9_exponentAt 13 = .ok (.if_icmp .ge 16, 3) := by decide +kernel
theorem dX9_exponentAt_16 : decode cX9_exponentAt 16 = .ok (.aload_n 0, 1) := by decide +kernel
theorem dX9_exponentAt_17 : decode cX9_exponentAt 17 = .ok (.getfield 19, 3) := by decide +kernel
theorem dX9_exponentAt_20 : decode cX9_exponentAt 20 = .ok (.iload_n 1, 1) := by decide +kernel
theorem dX9_exponentAt_21 : decode cX9_exponentAt 21 = .ok (.iconst 3, 1) := by decide +kernel
theorem dX9_exponentAt_22 : decode cX9_exponentAt 22 = .ok (.imul, 1) := by decide +kernel
theorem dX9_exponentAt_23 : decode cX9_exponentAt 23 = .ok (.iload_n 2, 1) := by decide +kernel
theorem dX9_exponentAt_24 : decode cX9_exponentAt 24 = .ok (.iadd, 1) := by decide +kernel
theorem dX9_exponentAt_25 : decode cX9_exponentAt 25 = .ok (.iaload, 1) := by decide +kernel
theorem dX9_exponentAt_26 : decode cX9_exponentAt 26 = .ok (.goto 4, 3) := by decide +kernel
theorem dX9_exponentAt_29 : decode cX9_exponentAt 29 = .ok (.iconst 0, 1) := by decide +kernel
theorem dX9_exponentAt_30 : decode cX9_exponentAt 30 = .ok (.ireturn, 1) := by decide +kernel
theorem dX10_init_0 : decode cX10_init 0 = .ok (.aload_n 0, 1) := by decide +kernel
theorem dX10_init_1 : decode cX10_init 1 = .ok (.invokespecial 3, 3) := by decide +kernel
theorem dX10_init_4 : decode cX10_init 4 = .ok (.aload_n 0, 1) := by decide +kernel
theorem dX10_init_5 : decode cX10_init 5 = .ok (.aload_n 1, 1) := by decide +kernel
theorem dX10_init_6 : decode cX10_init 6 = .ok (.putfield 9, 3) := by decide +kernel
theorem dX10_init_9 : decode cX10_init 9 = .ok (.aload_n 0, 1) := by decide +kernel
theorem dX10_init_10 : decode cX10_init 10 = .ok (.aload_n 2, 1) := by decide +kernel
theorem dX10_init_11 : decode cX10_init 11 = .ok (.putfield 15, 3) := by decide +kernel
theorem dX10_init_14 : decode cX10_init 14 = .ok (.aload_n 0, 1) := by decide +kernel
theorem dX10_init_15 : decode cX10_init 15 = .ok (.sipush 288, 3) := by decide +kernel
theorem dX10_init_18 : decode cX10_init 18 = .ok (.newarray .int, 2) := by decide +kernel
theorem dX10_init_20 : decode cX10_init 20 = .ok (.putfield 19, 3) := by decide +kernel
theorem dX10_init_23 : decode cX10_init 23 = .ok (.aload_n 0, 1) := by decide +kernel
theorem dX10_init_24 : decode cX10_init 24 = .ok (.sipush 288, 3) := by decide +kernel
theorem dX10_init_27 : decode cX10_init 27 = .ok (.newarray .int, 2) := by decide +kernel
theorem dX10_init_29 : decode cX10_init 29 = .ok (.putfield 23, 3) := by decide +kernel
theorem dX10_init_32 : decode cX10_init 32 = .ok (.aload_n 0, 1) := by decide +kernel
theorem dX10_init_33 : decode cX10_init 33 = .ok (.sipush 288, 3) := by decide +kernel
theorem dX10_init_36 : decode cX10_init 36 = .ok (.newarray .int, 2) := by decide +kernel
theorem dX10_init_38 : decode cX10_init 38 = .ok (.putfield 26, 3) := by decide +kernel
theorem dX10_init_41 : decode cX10_init 41 = .ok (.aload_n 0, 1) := by decide +kernel
theorem dX10_init_42 : decode cX10_init 42 = .ok (.bipush 32, 2) := by decide +kernel
theorem dX10_init_44 : decode cX10_init 44 = .ok (.newarray .int, 2) := by decide +kernel
theorem dX10_init_46 : decode cX10_init 46 = .ok (.putfield 29, 3) := by decide +kernel
theorem dX10_init_49 : decode cX10_init 49 = .ok (.aload_n 0, 1) := by decide +kernel
theorem dX10_init_50 : decode cX10_init 50 = .ok (.iconst (-1), 1) := by decide +kernel
theorem dX10_init_51 : decode cX10_init 51 = .ok (.putfield 32, 3) := by decide +kernel
theorem dX10_init_54 : decode cX10_init 54 = .ok (.return_, 1) := by decide +kernel
theorem dX10_settle_0 : decode cX10_settle 0 = .ok (.aload_n 0, 1) := by decide +kernel
theorem dX10_settle_1 : decode cX10_settle 1 = .ok (.getfield 32, 3) := by decide +kernel
theorem dX10_settle_4 : decode cX10_settle 4 = .ok (.aload_n 0, 1) := by decide +kernel
theorem dX10_settle_5 : decode cX10_settle 5 = .ok (.getfield 9, 3) := by decide +kernel
theorem dX10_settle_8 : decode cX10_settle 8 = .ok (.getfield 36, 3) := by decide +kernel
theorem dX10_settle_11 : decode cX10_settle 11 = .ok (.if_icmp .ne 4, 3) := by decide +kernel
theorem dX10_settle_14 : decode cX10_settle 14 = .ok (.return_, 1) := by decide +kernel
theorem dX10_settle_15 : decode cX10_settle 15 = .ok (.aload_n 0, 1) := by decide +kernel
theorem dX10_settle_16 : decode cX10_settle 16 = .ok (.aload_n 0, 1) := by decide +kernel
theorem dX10_settle_17 : decode cX10_settle 17 = .ok (.getfield 9, 3) := by decide +kernel
theorem dX10_settle_20 : decode cX10_settle 20 = .ok (.getfield 36, 3) := by decide +kernel
theorem dX10_settle_23 : decode cX10_settle 23 = .ok (.putfield 32, 3) := by decide +kernel
theorem dX10_settle_26 : decode cX10_settle 26 = .ok (.aload_n 0, 1) := by decide +kernel
theorem dX10_settle_27 : decode cX10_settle 27 = .ok (.getfield 15, 3) := by decide +kernel
theorem dX10_settle_30 : decode cX10_settle 30 = .ok (.invokevirtual 39, 3) := by decide +kernel
theorem dX10_settle_33 : decode cX10_settle 33 = .ok (.iconst 0, 1) := by decide +kernel
theorem dX10_settle_34 : decode cX10_settle 34 = .ok (.istore_n 1, 1) := by decide +kernel
theorem dX10_settle_35 : decode cX10_settle 35 = .ok (.iload_n 1, 1) := by decide +kernel
theorem dX10_settle_36 : decode cX10_settle 36 = .ok (.sipush 288, 3) := by decide +kernel
theorem dX10_settle_39 : decode cX10_settle 39 = .ok (.if_icmp .ge 33, 3) := by decide +kernel
theorem dX10_settle_42 : decode cX10_settle 42 = .ok (.aload_n 0, 1) := by decide +kernel
theorem dX10_settle_43 : decode cX10_settle 43 = .ok (.getfield 19, 3) := by decide +kernel
theorem dX10_settle_46 : decode cX10_settle 46 = .ok (.iload_n 1, 1) := by decide +kernel
theorem dX10_settle_47 : decode cX10_settle 47 = .ok (.aload_n 0, 1) := by decide +kernel
theorem dX10_settle_48 : decode cX10_settle 48 = .ok (.getfield 9, 3) := by decide +kernel
theorem dX10_settle_51 : decode cX10_settle 51 = .ok (.iload_n 1, 1) := by decide +kernel
theorem dX10_settle_52 : decode cX10_settle 52 = .ok (.invokevirtual 44, 3) := by decide +kernel
theorem dX10_settle_55 : decode cX10_settle 55 = .ok (.getfield 48, 3) := by decide +kernel
theorem dX10_settle_58 : decode cX10_settle 58 = .ok (.iastore, 1) := by decide +kernel
theorem dX10_settle_59 : decode cX10_settle 59 = .ok (.aload_n 0, 1) := by decide +kernel
theorem dX10_settle_60 : decode cX10_settle 60 = .ok (.getfield 23, 3) := by decide +kernel
theorem dX10_settle_63 : decode cX10_settle 63 = .ok (.iload_n 1, 1) := by decide +kernel
theorem dX10_settle_64 : decode cX10_settle 64 = .ok (.iconst 0, 1) := by decide +kernel
theorem dX10_settle_65 : decode cX10_settle 65 = .ok (.iastore, 1) := by decide +kernel
theorem dX10_settle_66 : decode cX10_settle 66 = .ok (.iinc 1 1, 3) := by decide +kernel
theorem dX10_settle_69 : decode cX10_settle 69 = .ok (.goto (-34), 3) := by decide +kernel
theorem dX10_settle_72 : decode cX10_settle 72 = .ok (.iconst 0, 1) := by decide +kernel
theorem dX10_settle_73 : decode cX10_settle 73 = .ok (.istore_n 1, 1) := by decide +kernel
theorem dX10_settle_74 : decode cX10_settle 74 = .ok (.iload_n 1, 1) := by decide +kernel
theorem dX10_settle_75 : decode cX10_settle 75 = .ok (.aload_n 0, 1) := by decide +kernel
theorem dX10_settle_76 : decode cX10_settle 76 = .ok (.getfield 15, 3) := by decide +kernel
theorem dX10_settle_79 : decode cX10_settle 79 = .ok (.invokevirtual 53, 3) := by decide +kernel
theorem dX10_settle_82 : decode cX10_settle 82 = .ok (.if_icmp .ge 44, 3) := by decide +kernel
theorem dX10_settle_85 : decode cX10_settle 85 = .ok (.aload_n 0, 1) := by decide +kernel
theorem dX10_settle_86 : decode cX10_settle 86 = .ok (.getfield 15, 3) := by decide +kernel
theorem dX10_settle_89 : decode cX10_settle 89 = .ok (.iload_n 1, 1) := by decide +kernel
theorem dX10_settle_90 : decode cX10_settle 90 = .ok (.invokevirtual 57, 3) := by decide +kernel
theorem dX10_settle_93 : decode cX10_settle 93 = .ok (.istore_n 2, 1) := by decide +kernel
theorem dX10_settle_94 : decode cX10_settle 94 = .ok (.aload_n 0, 1) := by decide +kernel
theorem dX10_settle_95 : decode cX10_settle 95 = .ok (.getfield 9, 3) := by decide +kernel
theorem dX10_settle_98 : decode cX10_settle 98 = .ok (.iload_n 2, 1) := by decide +kernel
theorem dX10_settle_99 : decode cX10_settle 99 = .ok (.invokevirtual 61, 3) := by decide +kernel
theorem dX10_settle_102 : decode cX10_settle 102 = .ok (.astore_n 3, 1) := by decide +kernel
theorem dX10_settle_103 : decode cX10_settle 103 = .ok (.iload_n 2, 1) := by decide +kernel
theorem dX10_settle_104 : decode cX10_settle 104 = .ok (.invokestatic 65, 3) := by decide +kernel
theorem dX10_settle_107 : decode cX10_settle 107 = .ok (.ifCond .eq 13, 3) := by decide +kernel
theorem dX10_settle_110 : decode cX10_settle 110 = .ok (.aload_n 3, 1) := by decide +kernel
theorem dX10_settle_111 : decode cX10_settle 111 = .ok (.ifnull 9, 3) := by decide +kernel
theorem dX10_settle_114 : decode cX10_settle 114 = .ok (.aload_n 0, 1) := by decide +kernel
theorem dX10_settle_115 : decode cX10_settle 115 = .ok (.iload_n 2, 1) := by decide +kernel
theorem dX10_settle_116 : decode cX10_settle 116 = .ok (.aload_n 3, 1) := by decide +kernel
theorem dX10_settle_117 : decode cX10_settle 117 = .ok (.invokevirtual 69, 3) := by decide +kernel
theorem dX10_settle_120 : decode cX10_settle 120 = .ok (.iinc 1 1, 3) := by decide +kernel
theorem dX10_settle_123 : decode cX10_settle 123 = .ok (.goto (-49), 3) := by decide +kernel
theorem dX10_settle_126 : decode cX10_settle 126 = .ok (.return_, 1) := by decide +kernel
theorem dX10_valueAt_0 : decode cX10_valueAt 0 = .ok (.iload_n 1, 1) := by decide +kernel
theorem dX10_valueAt_1 : decode cX10_valueAt 1 = .ok (.invokestatic 65, 3) := by decide +kernel
theorem dX10_valueAt_4 : decode cX10_valueAt 4 = .ok (.ifCond .eq 12, 3) := by decide +kernel
theorem dX10_valueAt_7 : decode cX10_valueAt 7 = .ok (.aload_n 0, 1) := by decide +kernel
theorem dX10_valueAt_8 : decode cX10_valueAt 8 = .ok (.getfield 19, 3) := by decide +kernel
theorem dX10_valueAt_11 : decode cX10_valueAt 11 = .ok (.iload_n 1, 1) := by decide +kernel
theorem dX10_valueAt_12 : decode cX10_valueAt 12 = .ok (.iaload, 1) := by decide +kernel
theorem dX10_valueAt_13 : decode cX10_valueAt 13 = .ok (.goto 4, 3) := by decide +kernel
theorem dX10_valueAt_16 : decode cX10_valueAt 16 = .ok (.iconst 0, 1) := by decide +kernel
theorem dX10_valueAt_17 : decode cX10_valueAt 17 = .ok (.ireturn, 1) := by decide +kernel
theorem dX10_errorAt_0 : decode cX10_errorAt 0 = .ok (.iload_n 1, 1) := by decide +kernel
theorem dX10_errorAt_1 : decode cX10_errorAt 1 = .ok (.invokestatic 65, 3) := by decide +kernel
theorem dX10_errorAt_4 : decode cX10_errorAt 4 = .ok (.ifCond .eq 12, 3) := by decide +kernel
theorem dX10_errorAt_7 : decode cX10_errorAt 7 = .ok (.aload_n 0, 1) := by decide +kernel
theorem dX10_errorAt_8 : decode cX10_errorAt 8 = .ok (.getfield 23, 3) := by decide +kernel
theorem dX10_errorAt_11 : decode cX10_errorAt 11 = .ok (.iload_n 1, 1) := by decide +kernel
theorem dX10_errorAt_12 : decode cX10_errorAt 12 = .ok (.iaload, 1) := by decide +kernel
theorem dX10_errorAt_13 : decode cX10_errorAt 13 = .ok (.goto 4, 3) := by decide +kernel
theorem dX10_errorAt_16 : decode cX10_errorAt 16 = .ok (.iconst 0, 1) := by decide +kernel
theorem dX10_errorAt_17 : decode cX10_errorAt 17 = .ok (.ireturn, 1) := by decide +kernel
theorem dX10_errors_0 : decode cX10_errors 0 = .ok (.iconst 0, 1) := by decide +kernel
theorem dX10_errors_1 : decode cX10_errors 1 = .ok (.istore_n 1, 1) := by decide +kernel
theorem dX10_errors_2 : decode cX10_errors 2 = .ok (.iconst 0, 1) := by decide +kernel
theorem dX10_errors_3 : decode cX10_errors 3 = .ok (.istore_n 2, 1) := by decide +kernel
theorem dX10_errors_4 : decode cX10_errors 4 = .ok (.iload_n 2, 1) := by decide +kernel
theorem dX10_errors_5 : decode cX10_errors 5 = .ok (.sipush 288, 3) := by decide +kernel
theorem dX10_errors_8 : decode cX10_errors 8 = .ok (.if_icmp .ge 21, 3) := by decide +kernel
theorem dX10_errors_11 : decode cX10_errors 11 = .ok (.aload_n 0, 1) := by decide +kernel
theorem dX10_errors_12 : decode cX10_errors 12 = .ok (.getfield 23, 3) := by decide +kernel
theorem dX10_errors_15 : decode cX10_errors 15 = .ok (.iload_n 2, 1) := by decide +kernel
theorem dX10_errors_16 : decode cX10_errors 16 = .ok (.iaload, 1) := by decide +kernel
theorem dX10_errors_17 : decode cX10_errors 17 = .ok (.ifCond .eq 6, 3) := by decide +kernel
theorem dX10_errors_20 : decode cX10_errors 20 = .ok (.iinc 1 1, 3) := by decide +kernel
theorem dX10_errors_23 : decode cX10_errors 23 = .ok (.iinc 2 1, 3) := by decide +kernel
theorem dX10_errors_26 : decode cX10_errors 26 = .ok (.goto (-22), 3) := by decide +kernel
theorem dX10_errors_29 : decode cX10_errors 29 = .ok (.iload_n 1, 1) := by decide +kernel
theorem dX10_errors_30 : decode cX10_errors 30 = .ok (.ireturn, 1) := by decide +kernel
theorem dX11_init_0 : decode cX11_init 0 = .ok (.aload_n 0, 1) := by decide +kernel
theorem dX11_init_1 : decode cX11_init 1 = .ok (.invokespecial 3, 3) := by decide +kernel
theorem dX11_init_4 : decode cX11_init 4 = .ok (.aload_n 0, 1) := by decide +kernel
theorem dX11_init_5 : decode cX11_init 5 = .ok (.new 9, 3) := by decide +kernel
theorem dX11_init_8 : decode cX11_init 8 = .ok (.dup, 1) := by decide +kernel
theorem dX11_init_9 : decode cX11_init 9 = .ok (.invokespecial 11, 3) := by decide +kernel
theorem dX11_init_12 : decode cX11_init 12 = .ok (.putfield 12, 3) := by decide +kernel
theorem dX11_init_15 : decode cX11_init 15 = .ok (.aload_n 0, 1) := by decide +kernel
theorem dX11_init_16 : decode cX11_init 16 = .ok (.new 16, 3) := by decide +kernel
theorem dX11_init_19 : decode cX11_init 19 = .ok (.dup, 1) := by decide +kernel
theorem dX11_init_20 : decode cX11_init 20 = .ok (.invokespecial 18, 3) := by decide +kernel
theorem dX11_init_23 : decode cX11_init 23 = .ok (.putfield 19, 3) := by decide +kernel
theorem dX11_init_26 : decode cX11_init 26 = .ok (.aload_n 0, 1) := by decide +kernel
theorem dX11_init_27 : decode cX11_init 27 = .ok (.new 23, 3) := by decide +kernel
theorem dX11_init_30 : decode cX11_init 30 = .ok (.dup, 1) := by decide +kernel
theorem dX11_init_31 : decode cX11_init 31 = .ok (.aload_n 0, 1) := by decide +kernel
theorem dX11_init_32 : decode cX11_init 32 = .ok (.getfield 19, 3) := by decide +kernel
theorem dX11_init_35 : decode cX11_init 35 = .ok (.invokespecial 25, 3) := by decide +kernel
theorem dX11_init_38 : decode cX11_init 38 = .ok (.putfield 28, 3) := by decide +kernel
theorem dX11_init_41 : decode cX11_init 41 = .ok (.aload_n 0, 1) := by decide +kernel
theorem dX11_init_42 : decode cX11_init 42 = .ok (.new 32, 3) := by decide +kernel
theorem dX11_init_45 : decode cX11_init 45 = .ok (.dup, 1) := by decide +kernel
theorem dX11_init_46 : decode cX11_init 46 = .ok (.aload_n 0, 1) := by decide +kernel
theorem dX11_init_47 : decode cX11_init 47 = .ok (.getfield 19, 3) := by decide +kernel
theorem dX11_init_50 : decode cX11_init 50 = .ok (.aload_n 0, 1) := by decide +kernel
theorem dX11_init_51 : decode cX11_init 51 = .ok (.getfield 28, 3) := by decide +kernel
theorem dX11_init_54 : decode cX11_init 54 = .ok (.invokespecial 34, 3) := by decide +kernel
theorem dX11_init_57 : decode cX11_init 57 = .ok (.putfield 37, 3) := by decide +kernel
theorem dX11_init_60 : decode cX11_init 60 = .ok (.aload_n 0, 1) := by decide +kernel
theorem dX11_init_61 : decode cX11_init 61 = .ok (.new 41, 3) := by decide +kernel
theorem dX11_init_64 : decode cX11_init 64 = .ok (.dup, 1) := by decide +kernel
theorem dX11_init_65 : decode cX11_init 65 = .ok (.aload_n 0, 1) := by decide +kernel
theorem dX11_init_66 : decode cX11_init 66 = .ok (.getfield 19, 3) := by decide +kernel
theorem dX11_init_69 : decode cX11_init 69 = .ok (.invokespecial 43, 3) := by decide +kernel
theorem dX11_init_72 : decode cX11_init 72 = .ok (.putfield 44, 3) := by decide +kernel
theorem dX11_init_75 : decode cX11_init 75 = .ok (.aload_n 0, 1) := by decide +kernel
theorem dX11_init_76 : decode cX11_init 76 = .ok (.new 48, 3) := by decide +kernel
theorem dX11_init_79 : decode cX11_init 79 = .ok (.dup, 1) := by decide +kernel
theorem dX11_init_80 : decode cX11_init 80 = .ok (.aload_n 0, 1) := by decide +kernel
theorem dX11_init_81 : decode cX11_init 81 = .ok (.getfield 19, 3) := by decide +kernel
theorem dX11_init_84 : decode cX11_init 84 = .ok (.aload_n 0, 1) := by decide +kernel
theorem dX11_init_85 : decode cX11_init 85 = .ok (.getfield 28, 3) := by decide +kernel
theorem dX11_init_88 : decode cX11_init 88 = .ok (.invokespecial 50, 3) := by decide +kernel
theorem dX11_init_91 : decode cX11_init 91 = .ok (.putfield 51, 3) := by decide +kernel
theorem dX11_init_94 : decode cX11_init 94 = .ok (.aload_n 0, 1) := by decide +kernel
theorem dX11_init_95 : decode cX11_init 95 = .ok (.new 55, 3) := by decide +kernel
theorem dX11_init_98 : decode cX11_init 98 = .ok (.dup, 1) := by decide +kernel
theorem dX11_init_99 : decode cX11_init 99 = .ok (.aload_n 0, 1) := by decide +kernel
theorem dX11_init_100 : decode cX11_init 100 = .ok (.getfield 19, 3) := by decide +kernel
theorem dX11_init_103 : decode cX11_init 103 = .ok (.aload_n 0, 1) := by decide +kernel
theorem dX11_init_104 : decode cX11_init 104 = .ok (.getfield 28, 3) := by decide +kernel
theorem dX11_init_107 : decode cX11_init 107 = .ok (.invokespecial 57, 3) := by decide +kernel
theorem dX11_init_110 : decode cX11_init 110 = .ok (.putfield 58, 3) := by decide +kernel
theorem dX11_init_113 : decode cX11_init 113 = .ok (.aload_n 0, 1) := by decide +kernel
theorem dX11_init_114 : decode cX11_init 114 = .ok (.new 62, 3) := by decide +kernel
theorem dX11_init_117 : decode cX11_init 117 = .ok (.dup, 1) := by decide +kernel
theorem dX11_init_118 : decode cX11_init 118 = .ok (.aload_n 0, 1) := by decide +kernel
theorem dX11_init_119 : decode cX11_init 119 = .ok (.getfield 19, 3) := by decide +kernel
theorem dX11_init_122 : decode cX11_init 122 = .ok (.aload_n 0, 1) := by decide +kernel
theorem dX11_init_123 : decode cX11_init 123 = .ok (.getfield 28, 3) := by decide +kernel
theorem dX11_init_126 : decode cX11_init 126 = .ok (.aload_n 0, 1) := by decide +kernel
theorem dX11_init_127 : decode cX11_init 127 = .ok (.getfield 44, 3) := by decide +kernel
theorem dX11_init_130 : decode cX11_init 130 = .ok (.aload_n 0, 1) := by decide +kernel
theorem dX11_init_131 : decode cX11_init 131 = .ok (.getfield 51, 3) := by decide +kernel
theorem dX11_init_134 : decode cX11_init 134 = .ok (.aload_n 0, 1) := by decide +kernel
theorem dX11_init_135 : decode cX11_init 135 = .ok (.getfield 58, 3) := by decide +kernel
theorem dX11_init_138 : decode cX11_init 138 = .ok (.invokespecial 64, 3) := by decide +kernel
theorem dX11_init_141 : decode cX11_init 141 = .ok (.putfield 67, 3) := by decide +kernel
theorem dX11_init_144 : decode cX11_init 144 = .ok (.aload_n 0, 1) := by decide +kernel
theorem dX11_init_145 : decode cX11_init 145 = .ok (.new 71, 3) := by decide +kernel
theorem dX11_init_148 : decode cX11_init 148 = .ok (.dup, 1) := by decide +kernel
theorem dX11_init_149 : decode cX11_init 149 = .ok (.aload_n 0, 1) := by decide +kernel
theorem dX11_init_150 : decode cX11_init 150 = .ok (.getfield 37, 3) := by decide +kernel
theorem dX11_init_153 : decode cX11_init 153 = .ok (.invokespecial 73, 3) := by decide +kernel
theorem dX11_init_156 : decode cX11_init 156 = .ok (.putfield 76, 3) := by decide +kernel
theorem dX11_init_159 : decode cX11_init 159 = .ok (.return_, 1) := by decide +kernel
theorem dX11_feed_0 : decode cX11_feed 0 = .ok (.aload_n 0, 1) := by decide +kernel
theorem dX11_feed_1 : decode cX11_feed 1 = .ok (.getfield 12, 3) := by decide +kernel
theorem dX11_feed_4 : decode cX11_feed 4 = .ok (.lload_n 1, 1) := by decide +kernel
theorem dX11_feed_5 : decode cX11_feed 5 = .ok (.invokevirtual 80, 3) := by decide +kernel
theorem dX11_feed_8 : decode cX11_feed 8 = .ok (.aload_n 0, 1) := by decide +kernel
theorem dX11_feed_9 : decode cX11_feed 9 = .ok (.getfield 12, 3) := by decide +kernel
theorem dX11_feed_12 : decode cX11_feed 12 = .ok (.lload_n 3, 1) := by decide +kernel
theorem dX11_feed_13 : decode cX11_feed 13 = .ok (.invokevirtual 80, 3) := by decide +kernel
theorem dX11_feed_16 : decode cX11_feed 16 = .ok (.aload_n 0, 1) := by decide +kernel
theorem dX11_feed_17 : decode cX11_feed 17 = .ok (.getfield 12, 3) := by decide +kernel
theorem dX11_feed_20 : decode cX11_feed 20 = .ok (.lload 5, 2) := by decide +kernel
theorem dX11_feed_22 : decode cX11_feed 22 = .ok (.invokevirtual 80, 3) := by decide +kernel
theorem dX11_feed_25 : decode cX11_feed 25 = .ok (.aload_n 0, 1) := by decide +kernel
theorem dX11_feed_26 : decode cX11_feed 26 = .ok (.getfield 12, 3) := by decide +kernel
theorem dX11_feed_29 : decode cX11_feed 29 = .ok (.getfield 84, 3) := by decide +kernel
theorem dX11_feed_32 : decode cX11_feed 32 = .ok (.ireturn, 1) := by decide +kernel
theorem dX11_formula_0 : decode cX11_formula 0 = .ok (.iload_n 1, 1) := by decide +kernel
theorem dX11_formula_1 : decode cX11_formula 1 = .ok (.invokestatic 88, 3) := by decide +kernel
theorem dX11_formula_4 : decode cX11_formula 4 = .ok (.ifCond .ne 13, 3) := by decide +kernel
theorem dX11_formula_7 : decode cX11_formula 7 = .ok (.aload_n 0, 1) := by decide +kernel
theorem dX11_formula_8 : decode cX11_formula 8 = .ok (.getfield 12, 3) := by decide +kernel
theorem dX11_formula_11 : decode cX11_formula 11 = .ok (.iconst 0, 1) := by decide +kernel
theorem dX11_formula_12 : decode cX11_formula 12 = .ok (.putfield 84, 3) := by decide +kernel
theorem dX11_formula_15 : decode cX11_formula 15 = .ok (.iconst (-1), 1) := by decide +kernel
theorem dX11_formula_16 : decode cX11_formula 16 = .ok (.ireturn, 1) := by decide +kernel
theorem dX11_formula_17 : decode cX11_formula 17 = .ok (.aload_n 0, 1) := by decide +kernel
theorem dX11_formula_18 : decode cX11_formula 18 = .ok (.getfield 12, 3) := by decide +kernel
theorem dX11_formula_21 : decode cX11_formula 21 = .ok (.iload_n 1, 1) := by decide +kernel
theorem dX11_formula_22 : decode cX11_formula 22 = .ok (.invokevirtual 92, 3) := by decide +kernel
theorem dX11_formula_25 : decode cX11_formula 25 = .ok (.astore_n 2, 1) := by decide +kernel
theorem dX11_formula_26 : decode cX11_formula 26 = .ok (.aload_n 0, 1) := by decide +kernel
theorem dX11_formula_27 : decode cX11_formula 27 = .ok (.getfield 12, 3) := by decide +kernel
theorem dX11_formula_30 : decode cX11_formula 30 = .ok (.iconst 0, 1) := by decide +kernel
theorem dX11_formula_31 : decode cX11_formula 31 = .ok (.putfield 84, 3) := by decide +kernel
theorem dX11_formula_34 : decode cX11_formula 34 = .ok (.aload_n 2, 1) := by decide +kernel
theorem dX11_formula_35 : decode cX11_formula 35 = .ok (.ifnonnull 11, 3) := by decide +kernel
theorem dX11_formula_38 : decode cX11_formula 38 = .ok (.aload_n 0, 1) := by decide +kernel
theorem dX11_formula_39 : decode cX11_formula 39 = .ok (.getfield 12, 3) := by decide +kernel
theorem dX11_formula_42 : decode cX11_formula 42 = .ok (.getfield 96, 3) := by decide +kernel
theorem dX11_formula_45 : decode cX11_formula 45 = .ok (.ireturn, 1) := by decide +kernel
theorem dX11_formula_46 : decode cX11_formula 46 = .ok (.aload_n 0, 1) := by decide +kernel
theorem dX11_formula_47 : decode cX11_formula 47 = .ok (.getfield 19, 3) := by decide +kernel
theorem dX11_formula_50 : decode cX11_formula 50 = .ok (.iload_n 1, 1) := by decide +kernel
theorem dX11_formula_51 : decode cX11_formula 51 = .ok (.new 99, 3) := by decide +kernel
theorem dX11_formula_54 : decode cX11_formula 54 = .ok (.dup, 1) := by decide +kernel
theorem dX11_formula_55 : decode cX11_formula 55 = .ok (.iconst 2, 1) := by decide +kernel
theorem dX11_formula_56 : decode cX11_formula 56 = .ok (.iconst 0, 1) := by decide +kernel
theorem dX11_formula_57 : decode cX11_formula 57 = .ok (.aload_n 2, 1) := by decide +kernel
theorem dX11_formula_58 : decode cX11_formula 58 = .ok (.invokespecial 101, 3) := by decide +kernel
theorem dX11_formula_61 : decode cX11_formula 61 = .ok (.invokevirtual 104, 3) := by decide +kernel
theorem dX11_formula_64 : decode cX11_formula 64 = .ok (.iconst 0, 1) := by decide +kernel
theorem dX11_formula_65 : decode cX11_formula 65 = .ok (.ireturn, 1) := by decide +kernel
theorem dX11_number_0 : decode cX11_number 0 = .ok (.iload_n 1, 1) := by decide +kernel
theorem dX11_number_1 : decode cX11_number 1 = .ok (.invokestatic 88, 3) := by decide +kernel
theorem dX11_number_4 : decode cX11_number 4 = .ok (.ifCond .ne 5, 3) := by decide +kernel
theorem dX11_number_7 : decode cX11_number 7 = .ok (.iconst 0, 1) := by decide +kernel
theorem dX11_number_8 : decode cX11_number 8 = .ok (.ireturn, 1) := by decide +kernel
theorem dX11_number_9 : decode cX11_number 9 = .ok (.aload_n 0, 1) := by decide +kernel
theorem dX11_number_10 : decode cX11_number 10 = .ok (.getfield 19, 3) := by decide +kernel
theorem dX11_number_13 : decode cX11_number 13 = .ok (.iload_n 1, 1) := by decide +kernel
theorem dX11_number_14 : decode cX11_number 14 = .ok (.new 99, 3) := by decide +kernel
theorem dX11_number_17 : decode cX11_number 17 = .ok (.dup, 1) := by decide +kernel
theorem dX11_number_18 : decode cX11_number 18 = .ok (.iconst 1, 1) := by decide +kernel
theorem dX11_number_19 : decode cX11_number 19 = .ok (.iload_n 2, 1) := by decide +kernel
theorem dX11_number_20 : decode cX11_number 20 = .ok (.aconst_null, 1) := by decide +kernel
theorem dX11_number_21 : decode cX11_number 21 = .ok (.invokespecial 101, 3) := by decide +kernel
theorem dX11_number_24 : decode cX11_number 24 = .ok (.invokevirtual 104, 3) := by decide +kernel
theorem dX11_number_27 : decode cX11_number 27 = .ok (.iconst 1, 1) := by decide +kernel
theorem dX11_number_28 : decode cX11_number 28 = .ok (.ireturn, 1) := by decide +kernel
theorem dX11_empty_0 : decode cX11_empty 0 = .ok (.iload_n 1, 1) := by decide +kernel
theorem dX11_empty_1 : decode cX11_empty 1 = .ok (.invokestatic 88, 3) := by decide +kernel
theorem dX11_empty_4 : decode cX11_empty 4 = .ok (.ifCond .ne 5, 3) := by decide +kernel
theorem dX11_empty_7 : decode cX11_empty 7 = .ok (.iconst 0, 1) := by decide +kernel
theorem dX11_empty_8 : decode cX11_empty 8 = .ok (.ireturn, 1) := by decide +kernel
theorem dX11_empty_9 : decode cX11_empty 9 = .ok (.aload_n 0, 1) := by decide +kernel
theorem dX11_empty_10 : decode cX11_empty 10 = .ok (.getfield 19, 3) := by decide +kernel
theorem dX11_empty_13 : decode cX11_empty 13 = .ok (.iload_n 1, 1) := by decide +kernel
theorem dX11_empty_14 : decode cX11_empty 14 = .ok (.aload_n 0, 1) := by decide +kernel
theorem dX11_empty_15 : decode cX11_empty 15 = .ok (.getfield 19, 3) := by decide +kernel
theorem dX11_empty_18 : decode cX11_empty 18 = .ok (.getfield 108, 3) := by decide +kernel
theorem dX11_empty_21 : decode cX11_empty 21 = .ok (.invokevirtual 104, 3) := by decide +kernel
theorem dX11_empty_24 : decode cX11_empty 24 = .ok (.iconst 1, 1) := by decide +kernel
theorem dX11_empty_25 : decode cX11_empty 25 = .ok (.ireturn, 1) := by decide +kernel
theorem dX11_copy_0 : decode cX11_copy 0 = .ok (.iload_n 1, 1) := by decide +kernel
theorem dX11_copy_1 : decode cX11_copy 1 = .ok (.invokestatic 88, 3) := by decide +kernel
theorem dX11_copy_4 : decode cX11_copy 4 = .ok (.ifCond .eq 10, 3) := by decide +kernel
theorem dX11_copy_7 : decode cX11_copy 7 = .ok (.iload_n 2, 1) := by decide +kernel
theorem dX11_copy_8 : decode cX11_copy 8 = .ok (.invokestatic 88, 3) := by decide +kernel
theorem dX11_copy_11 : decode cX11_copy 11 = .ok (.ifCond .ne 5, 3) := by decide +kernel
theorem dX11_copy_14 : decode cX11_copy 14 = .ok (.iconst 0, 1) := by decide +kernel
theorem dX11_copy_15 : decode cX11_copy 15 = .ok (.ireturn, 1) := by decide +kernel
theorem dX11_copy_16 : decode cX11_copy 16 = .ok (.aload_n 0, 1) := by decide +kernel
theorem dX11_copy_17 : decode cX11_copy 17 = .ok (.getfield 19, 3) := by decide +kernel
theorem dX11_copy_20 : decode cX11_copy 20 = .ok (.iload_n 1, 1) := by decide +kernel
theorem dX11_copy_21 : decode cX11_copy 21 = .ok (.iload_n 2, 1) := by decide +kernel
theorem dX11_copy_22 : decode cX11_copy 22 = .ok (.invokevirtual 112, 3) := by decide +kernel
theorem dX11_copy_25 : decode cX11_copy 25 = .ok (.astore_n 3, 1) := by decide +kernel
theorem dX11_copy_26 : decode cX11_copy 26 = .ok (.aload_n 3, 1) := by decide +kernel
theorem dX11_copy_27 : decode cX11_copy 27 = .ok (.ifnonnull 5, 3) := by decide +kernel
theorem dX11_copy_30 : decode cX11_copy 30 = .ok (.iconst 0, 1) := by decide +kernel
theorem dX11_copy_31 : decode cX11_copy 31 = .ok (.ireturn, 1) := by decide +kernel
theorem dX11_copy_32 : decode cX11_copy 32 = .ok (.aload_n 0, 1) := by decide +kernel
theorem dX11_copy_33 : decode cX11_copy 33 = .ok (.getfield 19, 3) := by decide +kernel
theorem dX11_copy_36 : decode cX11_copy 36 = .ok (.iload_n 2, 1) := by decide +kernel
theorem dX11_copy_37 : decode cX11_copy 37 = .ok (.aload_n 3, 1) := by decide +kernel
theorem dX11_copy_38 : decode cX11_copy 38 = .ok (.invokevirtual 104, 3) := by decide +kernel
theorem dX11_copy_41 : decode cX11_copy 41 = .ok (.iconst 1, 1) := by decide +kernel
theorem dX11_copy_42 : decode cX11_copy 42 = .ok (.ireturn, 1) := by decide +kernel
theorem dX11_unit_0 : decode cX11_unit 0 = .ok (.aload_n 0, 1) := by decide +kernel
theorem dX11_unit_1 : decode cX11_unit 1 = .ok (.getfield 19, 3) := by decide +kernel
theorem dX11_unit_4 : decode cX11_unit 4 = .ok (.iload_n 1, 1) := by decide +kernel
theorem dX11_unit_5 : decode cX11_unit 5 = .ok (.invokevirtual 116, 3) := by decide +kernel
theorem dX11_unit_8 : decode cX11_unit 8 = .ok (.iconst 1, 1) := by decide +kernel
theorem dX11_unit_9 : decode cX11_unit 9 = .ok (.if_icmp .eq 5, 3) := by decide +kernel
theorem dX11_unit_12 : decode cX11_unit 12 = .ok (.iconst 0, 1) := by decide +kernel
theorem dX11_unit_13 : decode cX11_unit 13 = .ok (.ireturn, 1) := by decide +kernel
theorem dX11_unit_14 : decode cX11_unit 14 = .ok (.iload_n 2, 1) := by decide +kernel
theorem dX11_unit_15 : decode cX11_unit 15 = .ok (.invokestatic 120, 3) := by decide +kernel
theorem dX11_unit_18 : decode cX11_unit 18 = .ok (.ifCond .eq 18, 3) := by decide +kernel
theorem dX11_unit_21 : decode cX11_unit 21 = .ok (.iload_n 3, 1) := by decide +kernel
theorem dX11_unit_22 : decode cX11_unit 22 = .ok (.invokestatic 120, 3) := by decide +kernel
theorem dX11_unit_25 : decode cX11_unit 25 = .ok (.ifCond .eq 11, 3) := by decide +kernel
theorem dX11_unit_28 : decode cX11_unit 28 = .ok (.iload 4, 2) := by decide +kernel
theorem dX11_unit_30 : decode cX11_unit 30 = .ok (.invokestatic 120, 3) := by decide +kernel
theorem dX11_unit_33 : decode cX11_unit 33 = .ok (.ifCond .ne 5, 3) := by decide +kernel
theorem dX11_unit_36 : decode cX11_unit 36 = .ok (.iconst 0, 1) := by decide +kernel
theorem dX11_unit_37 : decode cX11_unit 37 = .ok (.ireturn, 1) := by decide +kernel
theorem dX11_unit_38 : decode cX11_unit 38 = .ok (.aload_n 0, 1) := by decide +kernel
theorem dX11_unit_39 : decode cX11_unit 39 = .ok (.getfield 19, 3) := by decide +kernel
theorem dX11_unit_42 : decode cX11_unit 42 = .ok (.iload_n 1, 1) := by decide +kernel
theorem dX11_unit_43 : decode cX11_unit 43 = .ok (.new 99, 3) := by decide +kernel
theorem dX11_unit_46 : decode cX11_unit 46 = .ok (.dup, 1) := by decide +kernel
theorem dX11_unit_47 : decode cX11_unit 47 = .ok (.aload_n 0, 1) := by decide +kernel
theorem dX11_unit_48 : decode cX11_unit 48 = .ok (.getfield 19, 3) := by decide +kernel
theorem dX11_unit_51 : decode cX11_unit 51 = .ok (.iload_n 1, 1) := by decide +kernel
theorem dX11_unit_52 : decode cX11_unit 52 = .ok (.invokevirtual 123, 3) := by decide +kernel
theorem dX11_unit_55 : decode cX11_unit 55 = .ok (.getfield 127, 3) := by decide +kernel
theorem dX11_unit_58 : decode cX11_unit 58 = .ok (.iload_n 2, 1) := by decide +kernel
theorem dX11_unit_59 : decode cX11_unit 59 = .ok (.iload_n 3, 1) := by decide +kernel
theorem dX11_unit_60 : decode cX11_unit 60 = .ok (.iload 4, 2) := by decide +kernel
theorem dX11_unit_62 : decode cX11_unit 62 = .ok (.invokespecial 130, 3) := by decide +kernel
theorem dX11_unit_65 : decode cX11_unit 65 = .ok (.invokevirtual 133, 3) := by decide +kernel
theorem dX11_unit_68 : decode cX11_unit 68 = .ok (.iconst 1, 1) := by decide +kernel
theorem dX11_unit_69 : decode cX11_unit 69 = .ok (.ireturn, 1) := by decide +kernel
theorem dX11_keep_0 : decode cX11_keep 0 = .ok (.aload_n 0, 1) := by decide +kernel
theorem dX11_keep_1 : decode cX11_keep 1 = .ok (.getfield 19, 3) := by decide +kernel
theorem dX11_keep_4 : decode cX11_keep 4 = .ok (.iload_n 1, 1) := by decide +kernel
theorem dX11_keep_5 : decode cX11_keep 5 = .ok (.iload_n 2, 1) := by decide +kernel
theorem dX11_keep_6 : decode cX11_keep 6 = .ok (.invokevirtual 136, 3) := by decide +kernel
theorem dX11_keep_9 : decode cX11_keep 9 = .ok (.ireturn, 1) := by decide +kernel
theorem dX11_check_0 : decode cX11_check 0 = .ok (.aload_n 0, 1) := by decide +kernel
theorem dX11_check_1 : decode cX11_check 1 = .ok (.getfield 44, 3) := by decide +kernel
theorem dX11_check_4 : decode cX11_check 4 = .ok (.invokevirtual 140, 3) := by decide +kernel
theorem dX11_check_7 : decode cX11_check 7 = .ok (.aload_n 0, 1) := by decide +kernel
theorem dX11_check_8 : decode cX11_check 8 = .ok (.getfield 51, 3) := by decide +kernel
theorem dX11_check_11 : decode cX11_check 11 = .ok (.invokevirtual 143, 3) := by decide +kernel
theorem dX11_check_14 : decode cX11_check 14 = .ok (.aload_n 0, 1) := by decide +kernel
theorem dX11_check_15 : decode cX11_check 15 = .ok (.getfield 58, 3) := by decide +kernel
theorem dX11_check_18 : decode cX11_check 18 = .ok (.invokevirtual 144, 3) := by decide +kernel
theorem dX11_check_21 : decode cX11_check 21 = .ok (.aload_n 0, 1) := by decide +kernel
theorem dX11_check_22 : decode cX11_check 22 = .ok (.getfield 67, 3) := by decide +kernel
theorem dX11_check_25 : decode cX11_check 25 = .ok (.invokevirtual 145, 3) := by decide +kernel
theorem dX11_check_28 : decode cX11_check 28 = .ok (.ireturn, 1) := by decide +kernel
theorem dX11_finding_0 : decode cX11_finding 0 = .ok (.aload_n 0, 1) := by decide +kernel
theorem dX11_finding_1 : decode cX11_finding 1 = .ok (.getfield 67, 3) := by decide +kernel
theorem dX11_finding_4 : decode cX11_finding 4 = .ok (.iload_n 1, 1) := by decide +kernel
theorem dX11_finding_5 : decode cX11_finding 5 = .ok (.iload_n 2, 1) := by decide +kernel
theorem dX11_finding_6 : decode cX11_finding 6 = .ok (.invokevirtual 149, 3) := by decide +kernel
theorem dX11_finding_9 : decode cX11_finding 9 = .ok (.ireturn, 1) := by decide +kernel
theorem dX11_mend_0 : decode cX11_mend 0 = .ok (.aload_n 0, 1) := by decide +kernel
theorem dX11_mend_1 : decode cX11_mend 1 = .ok (.getfield 76, 3) := by decide +kernel
theorem dX11_mend_4 : decode cX11_mend 4 = .ok (.invokevirtual 153, 3) := by decide +kernel
theorem dX11_mend_7 : decode cX11_mend 7 = .ok (.aload_n 0, 1) := by decide +kernel
theorem dX11_mend_8 : decode cX11_mend 8 = .ok (.getfield 44, 3) := by decide +kernel
theorem dX11_mend_11 : decode cX11_mend 11 = .ok (.invokevirtual 140, 3) := by decide +kernel
theorem dX11_mend_14 : decode cX11_mend 14 = .ok (.aload_n 0, 1) := by decide +kernel
theorem dX11_mend_15 : decode cX11_mend 15 = .ok (.getfield 44, 3) := by decide +kernel
theorem dX11_mend_18 : decode cX11_mend 18 = .ok (.iload_n 1, 1) := by decide +kernel
theorem dX11_mend_19 : decode cX11_mend 19 = .ok (.invokevirtual 156, 3) := by decide +kernel
theorem dX11_mend_22 : decode cX11_mend 22 = .ok (.istore_n 2, 1) := by decide +kernel
theorem dX11_mend_23 : decode cX11_mend 23 = .ok (.iload_n 2, 1) := by decide +kernel
theorem dX11_mend_24 : decode cX11_mend 24 = .ok (.iconst (-1), 1) := by decide +kernel
theorem dX11_mend_25 : decode cX11_mend 25 = .ok (.if_icmp .ne 5, 3) := by decide +kernel
theorem dX11_mend_28 : decode cX11_mend 28 = .ok (.iconst (-1), 1) := by decide +kernel
theorem dX11_mend_29 : decode cX11_mend 29 = .ok (.ireturn, 1) := by decide +kernel
theorem dX11_mend_30 : decode cX11_mend 30 = .ok (.aload_n 0, 1) := by decide +kernel
theorem dX11_mend_31 : decode cX11_mend 31 = .ok (.getfield 19, 3) := by decide +kernel
theorem dX11_mend_34 : decode cX11_mend 34 = .ok (.iload_n 2, 1) := by decide +kernel
theorem dX11_mend_35 : decode cX11_mend 35 = .ok (.iload_n 1, 1) := by decide +kernel
theorem dX11_mend_36 : decode cX11_mend 36 = .ok (.invokevirtual 112, 3) := by decide +kernel
theorem dX11_mend_39 : decode cX11_mend 39 = .ok (.astore_n 3, 1) := by decide +kernel
theorem dX11_mend_40 : decode cX11_mend 40 = .ok (.aload_n 3, 1) := by decide +kernel
theorem dX11_mend_41 : decode cX11_mend 41 = .ok (.ifnonnull 5, 3) := by decide +kernel
theorem dX11_mend_44 : decode cX11_mend 44 = .ok (.iconst (-1), 1) := by decide +kernel
theorem dX11_mend_45 : decode cX11_mend 45 = .ok (.ireturn, 1) := by decide +kernel
theorem dX11_mend_46 : decode cX11_mend 46 = .ok (.aload_n 0, 1) := by decide +kernel
theorem dX11_mend_47 : decode cX11_mend 47 = .ok (.getfield 37, 3) := by decide +kernel
theorem dX11_mend_50 : decode cX11_mend 50 = .ok (.invokevirtual 159, 3) := by decide +kernel
theorem dX11_mend_53 : decode cX11_mend 53 = .ok (.aload_n 0, 1) := by decide +kernel
theorem dX11_mend_54 : decode cX11_mend 54 = .ok (.getfield 76, 3) := by decide +kernel
theorem dX11_mend_57 : decode cX11_mend 57 = .ok (.invokevirtual 160, 3) := by decide +kernel
theorem dX11_mend_60 : decode cX11_mend 60 = .ok (.aload_n 0, 1) := by decide +kernel
theorem dX11_mend_61 : decode cX11_mend 61 = .ok (.getfield 19, 3) := by decide +kernel
theorem dX11_mend_64 : decode cX11_mend 64 = .ok (.iload_n 1, 1) := by decide +kernel
theorem dX11_mend_65 : decode cX11_mend 65 = .ok (.aload_n 3, 1) := by decide +kernel
theorem dX11_mend_66 : decode cX11_mend 66 = .ok (.invokevirtual 104, 3) := by decide +kernel
theorem dX11_mend_69 : decode cX11_mend 69 = .ok (.aload_n 0, 1) := by decide +kernel
theorem dX11_mend_70 : decode cX11_mend 70 = .ok (.getfield 37, 3) := by decide +kernel
theorem dX11_mend_73 : decode cX11_mend 73 = .ok (.invokevirtual 159, 3) := by decide +kernel
theorem dX11_mend_76 : decode cX11_mend 76 = .ok (.aload_n 0, 1) := by decide +kernel
theorem dX11_mend_77 : decode cX11_mend 77 = .ok (.getfield 76, 3) := by decide +kernel
theorem dX11_mend_80 : decode cX11_mend 80 = .ok (.invokevirtual 163, 3) := by decide +kernel
theorem dX11_mend_83 : decode cX11_mend 83 = .ok (.ireturn, 1) := by decide +kernel
theorem dX11_stretch_0 : decode cX11_stretch 0 = .ok (.aload_n 0, 1) := by decide +kernel
theorem dX11_stretch_1 : decode cX11_stretch 1 = .ok (.getfield 76, 3) := by decide +kernel
theorem dX11_stretch_4 : decode cX11_stretch 4 = .ok (.invokevirtual 153, 3) := by decide +kernel
theorem dX11_stretch_7 : decode cX11_stretch 7 = .ok (.aload_n 0, 1) := by decide +kernel
theorem dX11_stretch_8 : decode cX11_stretch 8 = .ok (.iload_n 1, 1) := by decide +kernel
theorem dX11_stretch_9 : decode cX11_stretch 9 = .ok (.iload_n 2, 1) := by decide +kernel
theorem dX11_stretch_10 : decode cX11_stretch 10 = .ok (.invokevirtual 166, 3) := by decide +kernel
theorem dX11_stretch_13 : decode cX11_stretch 13 = .ok (.astore_n 3, 1) := by decide +kernel
theorem dX11_stretch_14 : decode cX11_stretch 14 = .ok (.aload_n 3, 1) := by decide +kernel
theorem dX11_stretch_15 : decode cX11_stretch 15 = .ok (.ifnonnull 5, 3) := by decide +kernel
theorem dX11_stretch_18 : decode cX11_stretch 18 = .ok (.iconst (-1), 1) := by decide +kernel
theorem dX11_stretch_19 : decode cX11_stretch 19 = .ok (.ireturn, 1) := by decide +kernel
theorem dX11_stretch_20 : decode cX11_stretch 20 = .ok (.aload_n 0, 1) := by decide +kernel
theorem dX11_stretch_21 : decode cX11_stretch 21 = .ok (.getfield 37, 3) := by decide +kernel
theorem dX11_stretch_24 : decode cX11_stretch 24 = .ok (.invokevirtual 159, 3) := by decide +kernel
theorem dX11_stretch_27 : decode cX11_stretch 27 = .ok (.aload_n 0, 1) := by decide +kernel
theorem dX11_stretch_28 : decode cX11_stretch 28 = .ok (.getfield 76, 3) := by decide +kernel
theorem dX11_stretch_31 : decode cX11_stretch 31 = .ok (.invokevirtual 160, 3) := by decide +kernel
theorem dX11_stretch_34 : decode cX11_stretch 34 = .ok (.aload_n 0, 1) := by decide +kernel
theorem dX11_stretch_35 : decode cX11_stretch 35 = .ok (.getfield 19, 3) := by decide +kernel
theorem dX11_stretch_38 : decode cX11_stretch 38 = .ok (.iload_n 1, 1) := by decide +kernel
theorem dX11_stretch_39 : decode cX11_stretch 39 = .ok (.new 99, 3) := by decide +kernel
theorem dX11_stretch_42 : decode cX11_stretch 42 = .ok (.dup, 1) := by decide +kernel
theorem dX11_stretch_43 : decode cX11_stretch 43 = .ok (.iconst 2, 1) := by decide +kernel
theorem dX11_stretch_44 : decode cX11_stretch 44 = .ok (.iconst 0, 1) := by decide +kernel
theorem dX11_stretch_45 : decode cX11_stretch 45 = .ok (.aload_n 3, 1) := by decide +kernel
theorem dX11_stretch_46 : decode cX11_stretch 46 = .ok (.invokespecial 101, 3) := by decide +kernel
theorem dX11_stretch_49 : decode cX11_stretch 49 = .ok (.invokevirtual 104, 3) := by decide +kernel
theorem dX11_stretch_52 : decode cX11_stretch 52 = .ok (.aload_n 0, 1) := by decide +kernel
theorem dX11_stretch_53 : decode cX11_stretch 53 = .ok (.getfield 37, 3) := by decide +kernel
theorem dX11_stretch_56 : decode cX11_stretch 56 = .ok (.invokevirtual 159, 3) := by decide +kernel
theorem dX11_stretch_59 : decode cX11_stretch 59 = .ok (.aload_n 0, 1) := by decide +kernel
theorem dX11_stretch_60 : decode cX11_stretch 60 = .ok (.getfield 76, 3) := by decide +kernel
theorem dX11_stretch_63 : decode cX11_stretch 63 = .ok (.invokevirtual 163, 3) := by decide +kernel
theorem dX11_stretch_66 : decode cX11_stretch 66 = .ok (.ireturn, 1) := by decide +kernel
theorem dX11_changed_0 : decode cX11_changed 0 = .ok (.aload_n 0, 1) := by decide +kernel
theorem dX11_changed_1 : decode cX11_changed 1 = .ok (.getfield 76, 3) := by decide +kernel
theorem dX11_changed_4 : decode cX11_changed 4 = .ok (.iload_n 1, 1) := by decide +kernel
theorem dX11_changed_5 : decode cX11_changed 5 = .ok (.iload_n 2, 1) := by decide +kernel
theorem dX11_changed_6 : decode cX11_changed 6 = .ok (.invokevirtual 170, 3) := by decide +kernel
theorem dX11_changed_9 : decode cX11_changed 9 = .ok (.ireturn, 1) := by decide +kernel
theorem dX11_undo_0 : decode cX11_undo 0 = .ok (.aload_n 0, 1) := by decide +kernel
theorem dX11_undo_1 : decode cX11_undo 1 = .ok (.getfield 76, 3) := by decide +kernel
theorem dX11_undo_4 : decode cX11_undo 4 = .ok (.invokevirtual 153, 3) := by decide +kernel
theorem dX11_undo_7 : decode cX11_undo 7 = .ok (.aload_n 0, 1) := by decide +kernel
theorem dX11_undo_8 : decode cX11_undo 8 = .ok (.getfield 19, 3) := by decide +kernel
theorem dX11_undo_11 : decode cX11_undo 11 = .ok (.getfield 171, 3) := by decide +kernel
theorem dX11_undo_14 : decode cX11_undo 14 = .ok (.ifCond .ne 5, 3) := by decide +kernel
theorem dX11_undo_17 : decode cX11_undo 17 = .ok (.iconst (-1), 1) := by decide +kernel
theorem dX11_undo_18 : decode cX11_undo 18 = .ok (.ireturn, 1) := by decide +kernel
theorem dX11_undo_19 : decode cX11_undo 19 = .ok (.aload_n 0, 1) := by decide +kernel
theorem dX11_undo_20 : decode cX11_undo 20 = .ok (.getfield 37, 3) := by decide +kernel
theorem dX11_undo_23 : decode cX11_undo 23 = .ok (.invokevirtual 159, 3) := by decide +kernel
theorem dX11_undo_26 : decode cX11_undo 26 = .ok (.aload_n 0, 1) := by decide +kernel
theorem dX11_undo_27 : decode cX11_undo 27 = .ok (.getfield 76, 3) := by decide +kernel
theorem dX11_undo_30 : decode cX11_undo 30 = .ok (.invokevirtual 160, 3) := by decide +kernel
theorem dX11_undo_33 : decode cX11_undo 33 = .ok (.aload_n 0, 1) := by decide +kernel
theorem dX11_undo_34 : decode cX11_undo 34 = .ok (.getfield 19, 3) := by decide +kernel
theorem dX11_undo_37 : decode cX11_undo 37 = .ok (.invokevirtual 174, 3) := by decide +kernel
theorem dX11_undo_40 : decode cX11_undo 40 = .ok (.aload_n 0, 1) := by decide +kernel
theorem dX11_undo_41 : decode cX11_undo 41 = .ok (.getfield 37, 3) := by decide +kernel
theorem dX11_undo_44 : decode cX11_undo 44 = .ok (.invokevirtual 159, 3) := by decide +kernel
theorem dX11_undo_47 : decode cX11_undo 47 = .ok (.aload_n 0, 1) := by decide +kernel
theorem dX11_undo_48 : decode cX11_undo 48 = .ok (.getfield 76, 3) := by decide +kernel
theorem dX11_undo_51 : decode cX11_undo 51 = .ok (.invokevirtual 163, 3) := by decide +kernel
theorem dX11_undo_54 : decode cX11_undo 54 = .ok (.ireturn, 1) := by decide +kernel
theorem dX11_cell_0 : decode cX11_cell 0 = .ok (.iload_n 1, 1) := by decide +kernel
theorem dX11_cell_1 : decode cX11_cell 1 = .ok (.invokestatic 88, 3) := by decide +kernel
theorem dX11_cell_4 : decode cX11_cell 4 = .ok (.ifCond .eq 13, 3) := by decide +kernel
theorem dX11_cell_7 : decode cX11_cell 7 = .ok (.iload_n 2, 1) := by decide +kernel
theorem dX11_cell_8 : decode cX11_cell 8 = .ok (.ifCond .lt 9, 3) := by decide +kernel
theorem dX11_cell_11 : decode cX11_cell 11 = .ok (.iload_n 2, 1) := by decide +kernel
theorem dX11_cell_12 : decode cX11_cell 12 = .ok (.bipush 10, 2) := by decide +kernel
theorem dX11_cell_14 : decode cX11_cell 14 = .ok (.if_icmp .le 13, 3) := by decide +kernel
theorem dX11_cell_17 : decode cX11_cell 17 = .ok (.new 177, 3) := by decide +kernel
theorem dX11_cell_20 : decode cX11_cell 20 = .ok (.dup, 1) := by decide +kernel
theorem dX11_cell_21 : decode cX11_cell 21 = .ok (.ldc 179, 2) := by decide +kernel
theorem dX11_cell_23 : decode cX11_cell 23 = .ok (.invokespecial 181, 3) := by decide +kernel
theorem dX11_cell_26 : decode cX11_cell 26 = .ok (.athrow, 1) := by decide +kernel
theorem dX11_cell_27 : decode cX11_cell 27 = .ok (.iload_n 2, 1) := by decide +kernel
theorem dX11_cell_28 : decode cX11_cell 28 = .ok (.tableswitch 188 0 9 #[56, 65, 81, 97, 113, 113, 113, 132, 156, 172], 56) := by decide +kernel
theorem dX11_cell_84 : decode cX11_cell 84 = .ok (.aload_n 0, 1) := by decide +kernel
theorem dX11_cell_85 : decode cX11_cell 85 = .ok (.getfield 19, 3) := by decide +kernel
theorem dX11_cell_88 : decode cX11_cell 88 = .ok (.iload_n 1, 1) := by decide +kernel
theorem dX11_cell_89 : decode cX11_cell 89 = .ok (.invokevirtual 116, 3) := by decide +kernel
theorem dX11_cell_92 : decode cX11_cell 92 = .ok (.ireturn, 1) := by decide +kernel
theorem dX11_cell_93 : decode cX11_cell 93 = .ok (.aload_n 0, 1) := by decide +kernel
theorem dX11_cell_94 : decode cX11_cell 94 = .ok (.getfield 37, 3) := by decide +kernel
theorem dX11_cell_97 : decode cX11_cell 97 = .ok (.invokevirtual 159, 3) := by decide +kernel
theorem dX11_cell_100 : decode cX11_cell 100 = .ok (.aload_n 0, 1) := by decide +kernel
theorem dX11_cell_101 : decode cX11_cell 101 = .ok (.getfield 37, 3) := by decide +kernel
theorem dX11_cell_104 : decode cX11_cell 104 = .ok (.iload_n 1, 1) := by decide +kernel
theorem dX11_cell_105 : decode cX11_cell 105 = .ok (.invokevirtual 184, 3) := by decide +kernel
theorem dX11_cell_108 : decode cX11_cell 108 = .ok (.ireturn, 1) := by decide +kernel
theorem dX11_cell_109 : decode cX11_cell 109 = .ok (.aload_n 0, 1) := by decide +kernel
theorem dX11_cell_110 : decode cX11_cell 110 = .ok (.getfield 37, 3) := by decide +kernel
theorem dX11_cell_113 : decode cX11_cell 113 = .ok (.invokevirtual 159, 3) := by decide +kernel
theorem dX11_cell_116 : decode cX11_cell 116 = .ok (.aload_n 0, 1) := by decide +kernel
theorem dX11_cell_117 : decode cX11_cell 117 = .ok (.getfield 37, 3) := by decide +kernel
theorem dX11_cell_120 : decode cX11_cell 120 = .ok (.iload_n 1, 1) := by decide +kernel
theorem dX11_cell_121 : decode cX11_cell 121 = .ok (.invokevirtual 187, 3) := by decide +kernel
theorem dX11_cell_124 : decode cX11_cell 124 = .ok (.ireturn, 1) := by decide +kernel
theorem dX11_cell_125 : decode cX11_cell 125 = .ok (.aload_n 0, 1) := by decide +kernel
theorem dX11_cell_126 : decode cX11_cell 126 = .ok (.getfield 44, 3) := by decide +kernel
theorem dX11_cell_129 : decode cX11_cell 129 = .ok (.invokevirtual 140, 3) := by decide +kernel
theorem dX11_cell_132 : decode cX11_cell 132 = .ok (.aload_n 0, 1) := by decide +kernel
theorem dX11_cell_133 : decode cX11_cell 133 = .ok (.getfield 44, 3) := by decide +kernel
theorem dX11_cell_136 : decode cX11_cell 136 = .ok (.iload_n 1, 1) := by decide +kernel
theorem dX11_cell_137 : decode cX11_cell 137 = .ok (.invokevirtual 190, 3) := by decide +kernel
theorem dX11_cell_140 : decode cX11_cell 140 = .ok (.ireturn, 1) := by decide +kernel
theorem dX11_cell_141 : decode cX11_cell 141 = .ok (.aload_n 0, 1) := by decide +kernel
theorem dX11_cell_142 : decode cX11_cell 142 = .ok (.getfield 51, 3) := by decide +kernel
theorem dX11_cell_145 : decode cX11_cell 145 = .ok (.invokevirtual 143, 3) := by decide +kernel
theorem dX11_cell_148 : decode cX11_cell 148 = .ok (.aload_n 0, 1) := by decide +kernel
theorem dX11_cell_149 : decode cX11_cell 149 = .ok (.getfield 51, 3) := by decide +kernel
theorem dX11_cell_152 : decode cX11_cell 152 = .ok (.iload_n 1, 1) := by decide +kernel
theorem dX11_cell_153 : decode cX11_cell 153 = .ok (.iload_n 2, 1) := by decide +kernel
theorem dX11_cell_154 : decode cX11_cell 154 = .ok (.iconst 4, 1) := by decide +kernel
theorem dX11_cell_155 : decode cX11_cell 155 = .ok (.isub, 1) := by decide +kernel
theorem dX11_cell_156 : decode cX11_cell 156 = .ok (.invokevirtual 193, 3) := by decide +kernel
theorem dX11_cell_159 : decode cX11_cell 159 = .ok (.ireturn, 1) := by decide +kernel
theorem dX11_cell_160 : decode cX11_cell 160 = .ok (.aload_n 0, 1) := by decide +kernel
theorem dX11_cell_161 : decode cX11_cell 161 = .ok (.getfield 58, 3) := by decide +kernel
theorem dX11_cell_164 : decode cX11_cell 164 = .ok (.invokevirtual 144, 3) := by decide +kernel
theorem dX11_cell_167 : decode cX11_cell 167 = .ok (.aload_n 0, 1) := by decide +kernel
theorem dX11_cell_168 : decode cX11_cell 168 = .ok (.getfield 58, 3) := by decide +kernel
theorem dX11_cell_171 : decode cX11_cell 171 = .ok (.iload_n 1, 1) := by decide +kernel
theorem dX11_cell_172 : decode cX11_cell 172 = .ok (.invokevirtual 196, 3) := by decide +kernel
theorem dX11_cell_175 : decode cX11_cell 175 = .ok (.ifCond .eq 7, 3) := by decide +kernel
theorem dX11_cell_178 : decode cX11_cell 178 = .ok (.iconst 1, 1) := by decide +kernel
theorem dX11_cell_179 : decode cX11_cell 179 = .ok (.goto 4, 3) := by decide +kernel
theorem dX11_cell_182 : decode cX11_cell 182 = .ok (.iconst 0, 1) := by decide +kernel
theorem dX11_cell_183 : decode cX11_cell 183 = .ok (.ireturn, 1) := by decide +kernel
theorem dX11_cell_184 : decode cX11_cell 184 = .ok (.aload_n 0, 1) := by decide +kernel
theorem dX11_cell_185 : decode cX11_cell 185 = .ok (.getfield 28, 3) := by decide +kernel
theorem dX11_cell_188 : decode cX11_cell 188 = .ok (.invokevirtual 199, 3) := by decide +kernel
theorem dX11_cell_191 : decode cX11_cell 191 = .ok (.aload_n 0, 1) := by decide +kernel
theorem dX11_cell_192 : decode cX11_cell 192 = .ok (.getfield 28, 3) := by decide +kernel
theorem dX11_cell_195 : decode cX11_cell 195 = .ok (.iload_n 1, 1) := by decide +kernel
theorem dX11_cell_196 : decode cX11_cell 196 = .ok (.invokevirtual 200, 3) := by decide +kernel
theorem dX11_cell_199 : decode cX11_cell 199 = .ok (.ireturn, 1) := by decide +kernel
theorem dX11_cell_200 : decode cX11_cell 200 = .ok (.aload_n 0, 1) := by decide +kernel
theorem dX11_cell_201 : decode cX11_cell 201 = .ok (.getfield 28, 3) := by decide +kernel
theorem dX11_cell_204 : decode cX11_cell 204 = .ok (.invokevirtual 199, 3) := by decide +kernel
theorem dX11_cell_207 : decode cX11_cell 207 = .ok (.aload_n 0, 1) := by decide +kernel
theorem dX11_cell_208 : decode cX11_cell 208 = .ok (.getfield 28, 3) := by decide +kernel
theorem dX11_cell_211 : decode cX11_cell 211 = .ok (.iload_n 1, 1) := by decide +kernel
theorem dX11_cell_212 : decode cX11_cell 212 = .ok (.invokevirtual 203, 3) := by decide +kernel
theorem dX11_cell_215 : decode cX11_cell 215 = .ok (.ireturn, 1) := by decide +kernel
theorem dX11_cell_216 : decode cX11_cell 216 = .ok (.aload_n 0, 1) := by decide +kernel
theorem dX11_cell_217 : decode cX11_cell 217 = .ok (.getfield 19, 3) := by decide +kernel
theorem dX11_cell_220 : decode cX11_cell 220 = .ok (.iload_n 1, 1) := by decide +kernel
theorem dX11_cell_221 : decode cX11_cell 221 = .ok (.invokevirtual 206, 3) := by decide +kernel
theorem dX11_cell_224 : decode cX11_cell 224 = .ok (.ifCond .eq 7, 3) := by decide +kernel
theorem dX11_cell_227 : decode cX11_cell 227 = .ok (.iconst 1, 1) := by decide +kernel
theorem dX11_cell_228 : decode cX11_cell 228 = .ok (.goto 4, 3) := by decide +kernel
theorem dX11_cell_231 : decode cX11_cell 231 = .ok (.iconst 0, 1) := by decide +kernel
theorem dX11_cell_232 : decode cX11_cell 232 = .ok (.ireturn, 1) := by decide +kernel
theorem dX11_ways_0 : decode cX11_ways 0 = .ok (.iload_n 1, 1) := by decide +kernel
theorem dX11_ways_1 : decode cX11_ways 1 = .ok (.invokestatic 88, 3) := by decide +kernel
theorem dX11_ways_4 : decode cX11_ways 4 = .ok (.ifCond .eq 10, 3) := by decide +kernel
theorem dX11_ways_7 : decode cX11_ways 7 = .ok (.iload_n 2, 1) := by decide +kernel
theorem dX11_ways_8 : decode cX11_ways 8 = .ok (.invokestatic 88, 3) := by decide +kernel
theorem dX11_ways_11 : decode cX11_ways 11 = .ok (.ifCond .ne 5, 3) := by decide +kernel
theorem dX11_ways_14 : decode cX11_ways 14 = .ok (.iconst (-1), 1) := by decide +kernel
theorem dX11_ways_15 : decode cX11_ways 15 = .ok (.ireturn, 1) := by decide +kernel
theorem dX11_ways_16 : decode cX11_ways 16 = .ok (.aload_n 0, 1) := by decide +kernel
theorem dX11_ways_17 : decode cX11_ways 17 = .ok (.getfield 58, 3) := by decide +kernel
theorem dX11_ways_20 : decode cX11_ways 20 = .ok (.invokevirtual 144, 3) := by decide +kernel
theorem dX11_ways_23 : decode cX11_ways 23 = .ok (.aload_n 0, 1) := by decide +kernel
theorem dX11_ways_24 : decode cX11_ways 24 = .ok (.getfield 58, 3) := by decide +kernel
theorem dX11_ways_27 : decode cX11_ways 27 = .ok (.iload_n 2, 1) := by decide +kernel
theorem dX11_ways_28 : decode cX11_ways 28 = .ok (.invokevirtual 196, 3) := by decide +kernel
theorem dX11_ways_31 : decode cX11_ways 31 = .ok (.ifCond .eq 15, 3) := by decide +kernel
theorem dX11_ways_34 : decode cX11_ways 34 = .ok (.aload_n 0, 1) := by decide +kernel
theorem dX11_ways_35 : decode cX11_ways 35 = .ok (.getfield 58, 3) := by decide +kernel
theorem dX11_ways_38 : decode cX11_ways 38 = .ok (.iload_n 1, 1) := by decide +kernel
theorem dX11_ways_39 : decode cX11_ways 39 = .ok (.iload_n 2, 1) := by decide +kernel
theorem dX11_ways_40 : decode cX11_ways 40 = .ok (.invokevirtual 209, 3) := by decide +kernel
theorem dX11_ways_43 : decode cX11_ways 43 = .ok (.goto 4, 3) := by decide +kernel
theorem dX11_ways_46 : decode cX11_ways 46 = .ok (.iconst (-1), 1) := by decide +kernel
theorem dX11_ways_47 : decode cX11_ways 47 = .ok (.ireturn, 1) := by decide +kernel
theorem dX11_count_0 : decode cX11_count 0 = .ok (.iload_n 1, 1) := by decide +kernel
theorem dX11_count_1 : decode cX11_count 1 = .ok (.tableswitch 103 0 5 #[39, 48, 57, 72, 87, 95], 39) := by decide +kernel
theorem dX11_count_40 : decode cX11_count 40 = .ok (.aload_n 0, 1) := by decide +kernel
theorem dX11_count_41 : decode cX11_count 41 = .ok (.getfield 19, 3) := by decide +kernel
theorem dX11_count_44 : decode cX11_count 44 = .ok (.iconst 1, 1) := by decide +kernel
theorem dX11_count_45 : decode cX11_count 45 = .ok (.invokevirtual 212, 3) := by decide +kernel
theorem dX11_count_48 : decode cX11_count 48 = .ok (.ireturn, 1) := by decide +kernel
theorem dX11_count_49 : decode cX11_count 49 = .ok (.aload_n 0, 1) := by decide +kernel
theorem dX11_count_50 : decode cX11_count 50 = .ok (.getfield 19, 3) := by decide +kernel
theorem dX11_count_53 : decode cX11_count 53 = .ok (.iconst 2, 1) := by decide +kernel
theorem dX11_count_54 : decode cX11_count 54 = .ok (.invokevirtual 212, 3) := by decide +kernel
theorem dX11_count_57 : decode cX11_count 57 = .ok (.ireturn, 1) := by decide +kernel
theorem dX11_count_58 : decode cX11_count 58 = .ok (.aload_n 0, 1) := by decide +kernel
theorem dX11_count_59 : decode cX11_count 59 = .ok (.getfield 44, 3) := by decide +kernel
theorem dX11_count_62 : decode cX11_count 62 = .ok (.invokevirtual 140, 3) := by decide +kernel
theorem dX11_count_65 : decode cX11_count 65 = .ok (.aload_n 0, 1) := by decide +kernel
theorem dX11_count_66 : decode cX11_count 66 = .ok (.getfield 44, 3) := by decide +kernel
theorem dX11_count_69 : decode cX11_count 69 = .ok (.getfield 215, 3) := by decide +kernel
theorem dX11_count_72 : decode cX11_count 72 = .ok (.ireturn, 1) := by decide +kernel
theorem dX11_count_73 : decode cX11_count 73 = .ok (.aload_n 0, 1) := by decide +kernel
theorem dX11_count_74 : decode cX11_count 74 = .ok (.getfield 37, 3) := by decide +kernel
theorem dX11_count_77 : decode cX11_count 77 = .ok (.invokevirtual 159, 3) := by decide +kernel
theorem dX11_count_80 : decode cX11_count 80 = .ok (.aload_n 0, 1) := by decide +kernel
theorem dX11_count_81 : decode cX11_count 81 = .ok (.getfield 37, 3) := by decide +kernel
theorem dX11_count_84 : decode cX11_count 84 = .ok (.invokevirtual 218, 3) := by decide +kernel
theorem dX11_count_87 : decode cX11_count 87 = .ok (.ireturn, 1) := by decide +kernel
theorem dX11_count_88 : decode cX11_count 88 = .ok (.aload_n 0, 1) := by decide +kernel
theorem dX11_count_89 : decode cX11_count 89 = .ok (.getfield 12, 3) := by decide +kernel
theorem dX11_count_92 : decode cX11_count 92 = .ok (.getfield 84, 3) := by decide +kernel
theorem dX11_count_95 : decode cX11_count 95 = .ok (.ireturn, 1) := by decide +kernel
theorem dX11_count_96 : decode cX11_count 96 = .ok (.aload_n 0, 1) := by decide +kernel
theorem dX11_count_97 : decode cX11_count 97 = .ok (.getfield 19, 3) := by decide +kernel
theorem dX11_count_100 : decode cX11_count 100 = .ok (.getfield 171, 3) := by decide +kernel
theorem dX11_count_103 : decode cX11_count 103 = .ok (.ireturn, 1) := by decide +kernel
theorem dX11_count_104 : decode cX11_count 104 = .ok (.iconst (-1), 1) := by decide +kernel
theorem dX11_count_105 : decode cX11_count 105 = .ok (.ireturn, 1) := by decide +kernel
theorem dX11_stretchedFormula_0 : decode cX11_stretchedFormula 0 = .ok (.aload_n 0, 1) := by decide +kernel
theorem dX11_stretchedFormula_1 : decode cX11_stretchedFormula 1 = .ok (.getfield 19, 3) := by decide +kernel
theorem dX11_stretchedFormula_4 : decode cX11_stretchedFormula 4 = .ok (.iload_n 1, 1) := by decide +kernel
theorem dX11_stretchedFormula_5 : decode cX11_stretchedFormula 5 = .ok (.invokevirtual 221, 3) := by decide +kernel
theorem dX11_stretchedFormula_8 : decode cX11_stretchedFormula 8 = .ok (.astore_n 3, 1) := by decide +kernel
theorem dX11_stretchedFormula_9 : decode cX11_stretchedFormula 9 = .ok (.aload_n 3, 1) := by decide +kernel
theorem dX11_stretchedFormula_10 : decode cX11_stretchedFormula 10 = .ok (.ifnonnull 5, 3) := by decide +kernel
theorem dX11_stretchedFormula_13 : decode cX11_stretchedFormula 13 = .ok (.aconst_null, 1) := by decide +kernel
theorem dX11_stretchedFormula_14 : decode cX11_stretchedFormula 14 = .ok (.areturn, 1) := by decide +kernel
theorem dX11_stretchedFormula_15 : decode cX11_stretchedFormula 15 = .ok (.aload_n 0, 1) := by decide +kernel
theorem dX11_stretchedFormula_16 : decode cX11_stretchedFormula 16 = .ok (.getfield 44, 3) := by decide +kernel
theorem dX11_stretchedFormula_19 : decode cX11_stretchedFormula 19 = .ok (.invokevirtual 140, 3) := by decide +kernel
theorem dX11_stretchedFormula_22 : decode cX11_stretchedFormula 22 = .ok (.aload_n 3, 1) := by decide +kernel
theorem dX11_stretchedFormula_23 : decode cX11_stretchedFormula 23 = .ok (.iload_n 2, 1) := by decide +kernel
theorem dX11_stretchedFormula_24 : decode cX11_stretchedFormula 24 = .ok (.invokevirtual 224, 3) := by decide +kernel
theorem dX11_stretchedFormula_27 : decode cX11_stretchedFormula 27 = .ok (.istore 4, 2) := by decide +kernel
theorem dX11_stretchedFormula_29 : decode cX11_stretchedFormula 29 = .ok (.aload_n 0, 1) := by decide +kernel
theorem dX11_stretchedFormula_30 : decode cX11_stretchedFormula 30 = .ok (.getfield 67, 3) := by decide +kernel
theorem dX11_stretchedFormula_33 : decode cX11_stretchedFormula 33 = .ok (.iload_n 1, 1) := by decide +kernel
theorem dX11_stretchedFormula_34 : decode cX11_stretchedFormula 34 = .ok (.aload_n 3, 1) := by decide +kernel
theorem dX11_stretchedFormula_35 : decode cX11_stretchedFormula 35 = .ok (.iload 4, 2) := by decide +kernel
theorem dX11_stretchedFormula_37 : decode cX11_stretchedFormula 37 = .ok (.invokevirtual 229, 3) := by decide +kernel
theorem dX11_stretchedFormula_40 : decode cX11_stretchedFormula 40 = .ok (.iconst (-1), 1) := by decide +kernel
theorem dX11_stretchedFormula_41 : decode cX11_stretchedFormula 41 = .ok (.if_icmp .eq 12, 3) := by decide +kernel
theorem dX11_stretchedFormula_44 : decode cX11_stretchedFormula 44 = .ok (.aload_n 3, 1) := by decide +kernel
theorem dX11_stretchedFormula_45 : decode cX11_stretchedFormula 45 = .ok (.iload 4, 2) := by decide +kernel
theorem dX11_stretchedFormula_47 : decode cX11_stretchedFormula 47 = .ok (.iconst 1, 1) := by decide +kernel
theorem dX11_stretchedFormula_48 : decode cX11_stretchedFormula 48 = .ok (.iconst 0, 1) := by decide +kernel
theorem dX11_stretchedFormula_49 : decode cX11_stretchedFormula 49 = .ok (.invokevirtual 233, 3) := by decide +kernel
theorem dX11_stretchedFormula_52 : decode cX11_stretchedFormula 52 = .ok (.areturn, 1) := by decide +kernel
theorem dX11_stretchedFormula_53 : decode cX11_stretchedFormula 53 = .ok (.aload_n 0, 1) := by decide +kernel
theorem dX11_stretchedFormula_54 : decode cX11_stretchedFormula 54 = .ok (.getfield 67, 3) := by decide +kernel
theorem dX11_stretchedFormula_57 : decode cX11_stretchedFormula 57 = .ok (.iload_n 1, 1) := by decide +kernel
theorem dX11_stretchedFormula_58 : decode cX11_stretchedFormula 58 = .ok (.aload_n 3, 1) := by decide +kernel
theorem dX11_stretchedFormula_59 : decode cX11_stretchedFormula 59 = .ok (.iload 4, 2) := by decide +kernel
theorem dX11_stretchedFormula_61 : decode cX11_stretchedFormula 61 = .ok (.invokevirtual 237, 3) := by decide +kernel
theorem dX11_stretchedFormula_64 : decode cX11_stretchedFormula 64 = .ok (.iconst (-1), 1) := by decide +kernel
theorem dX11_stretchedFormula_65 : decode cX11_stretchedFormula 65 = .ok (.if_icmp .eq 12, 3) := by decide +kernel
theorem dX11_stretchedFormula_68 : decode cX11_stretchedFormula 68 = .ok (.aload_n 3, 1) := by decide +kernel
theorem dX11_stretchedFormula_69 : decode cX11_stretchedFormula 69 = .ok (.iload 4, 2) := by decide +kernel
theorem dX11_stretchedFormula_71 : decode cX11_stretchedFormula 71 = .ok (.iconst 0, 1) := by decide +kernel
theorem dX11_stretchedFormula_72 : decode cX11_stretchedFormula 72 = .ok (.iconst 1, 1) := by decide +kernel
theorem dX11_stretchedFormula_73 : decode cX11_stretchedFormula 73 = .ok (.invokevirtual 233, 3) := by decide +kernel
theorem dX11_stretchedFormula_76 : decode cX11_stretchedFormula 76 = .ok (.areturn, 1) := by decide +kernel
theorem dX11_stretchedFormula_77 : decode cX11_stretchedFormula 77 = .ok (.aconst_null, 1) := by decide +kernel
theorem dX11_stretchedFormula_78 : decode cX11_stretchedFormula 78 = .ok (.areturn, 1) := by decide +kernel
theorem dX11_onSheet_0 : decode cX11_onSheet 0 = .ok (.iload_n 0, 1) := by decide +kernel
theorem dX11_onSheet_1 : decode cX11_onSheet 1 = .ok (.ifCond .lt 14, 3) := by decide +kernel
theorem dX11_onSheet_4 : decode cX11_onSheet 4 = .ok (.iload_n 0, 1) := by decide +kernel
theorem dX11_onSheet_5 : decode cX11_onSheet 5 = .ok (.sipush 288, 3) := by decide +kernel
theorem dX11_onSheet_8 : decode cX11_onSheet 8 = .ok (.if_icmp .ge 7, 3) := by decide +kernel
theorem dX11_onSheet_11 : decode cX11_onSheet 11 = .ok (.iconst 1, 1) := by decide +kernel
theorem dX11_onSheet_12 : decode cX11_onSheet 12 = .ok (.goto 4, 3) := by decide +kernel
theorem dX11_onSheet_15 : decode cX11_onSheet 15 = .ok (.iconst 0, 1) := by decide +kernel
theorem dX11_onSheet_16 : decode cX11_onSheet 16 = .ok (.ireturn, 1) := by decide +kernel
end
section
theorem dX12_init_0 : decode cX12_init 0 = .ok (.aload_n 0, 1) := by decide +kernel
theorem dX12_init_1 : decode cX12_init 1 = .ok (.invokespecial 58, 3) := by decide +kernel
theorem dX12_init_4 : decode cX12_init 4 = .ok (.aload_n 0, 1) := by decide +kernel
theorem dX12_init_5 : decode cX12_init 5 = .ok (.bipush 120, 2) := by decide +kernel
theorem dX12_init_7 : decode cX12_init 7 = .ok (.newarray .int, 2) := by decide +kernel
theorem dX12_init_9 : decode cX12_init 9 = .ok (.putfield 14, 3) := by decide +kernel
theorem dX12_init_12 : decode cX12_init 12 = .ok (.aload_n 0, 1) := by decide +kernel
theorem dX12_init_13 : decode cX12_init 13 = .ok (.bipush 122, 2) := by decide +kernel
theorem dX12_init_15 : decode cX12_init 15 = .ok (.newarray .int, 2) := by decide +kernel
theorem dX12_init_17 : decode cX12_init 17 = .ok (.putfield 32, 3) := by decide +kernel
theorem dX12_init_20 : decode cX12_init 20 = .ok (.aload_n 0, 1) := by decide +kernel
theorem dX12_init_21 : decode cX12_init 21 = .ok (.bipush 122, 2) := by decide +kernel
theorem dX12_init_23 : decode cX12_init 23 = .ok (.newarray .int, 2) := by decide +kernel
theorem dX12_init_25 : decode cX12_init 25 = .ok (.putfield 21, 3) := by decide +kernel
theorem dX12_init_28 : decode cX12_init 28 = .ok (.aload_n 0, 1) := by decide +kernel
theorem dX12_init_29 : decode cX12_init 29 = .ok (.bipush 122, 2) := by decide +kernel
theorem dX12_init_31 : decode cX12_init 31 = .ok (.newarray .long, 2) := by decide +kernel
theorem dX12_init_33 : decode cX12_init 33 = .ok (.putfield 45, 3) := by decide +kernel
theorem dX12_init_36 : decode cX12_init 36 = .ok (.aload_n 0, 1) := by decide +kernel
theorem dX12_init_37 : decode cX12_init 37 = .ok (.ldc 64, 2) := by decide +kernel
theorem dX12_init_39 : decode cX12_init 39 = .ok (.newarray .int, 2) := by decide +kernel
theorem dX12_init_41 : decode cX12_init 41 = .ok (.putfield 65, 3) := by decide +kernel
theorem dX12_init_44 : decode cX12_init 44 = .ok (.aload_n 0, 1) := by decide +kernel
theorem dX12_init_45 : decode cX12_init 45 = .ok (.ldc 64, 2) := by decide +kernel
theorem dX12_init_47 : decode cX12_init 47 = .ok (.newarray .int, 2) := by decide +kernel
theorem dX12_init_49 : decode cX12_init 49 = .ok (.putfield 68, 3) := by decide +kernel
theorem dX12_init_52 : decode cX12_init 52 = .ok (.aload_n 0, 1) := by decide +kernel
theorem dX12_init_53 : decode cX12_init 53 = .ok (.ldc 64, 2) := by decide +kernel
theorem dX12_init_55 : decode cX12_init 55 = .ok (.newarray .int, 2) := by decide +kernel
theorem dX12_init_57 : decode cX12_init 57 = .ok (.putfield 71, 3) := by decide +kernel
theorem dX12_init_60 : decode cX12_init 60 = .ok (.aload_n 0, 1) := by decide +kernel
theorem dX12_init_61 : decode cX12_init 61 = .ok (.ldc 64, 2) := by decide +kernel
theorem dX12_init_63 : decode cX12_init 63 = .ok (.newarray .int, 2) := by decide +kernel
theorem dX12_init_65 : decode cX12_init 65 = .ok (.putfield 74, 3) := by decide +kernel
theorem dX12_init_68 : decode cX12_init 68 = .ok (.aload_n 0, 1) := by decide +kernel
theorem dX12_init_69 : decode cX12_init 69 = .ok (.sipush 309, 3) := by decide +kernel
theorem dX12_init_72 : decode cX12_init 72 = .ok (.newarray .int, 2) := by decide +kernel
theorem dX12_init_74 : decode cX12_init 74 = .ok (.putfield 77, 3) := by decide +kernel
theorem dX12_init_77 : decode cX12_init 77 = .ok (.aload_n 0, 1) := by decide +kernel
theorem dX12_init_78 : decode cX12_init 78 = .ok (.sipush 309, 3) := by decide +kernel
theorem dX12_init_81 : decode cX12_init 81 = .ok (.newarray .int, 2) := by decide +kernel
theorem dX12_init_83 : decode cX12_init 83 = .ok (.putfield 80, 3) := by decide +kernel
theorem dX12_init_86 : decode cX12_init 86 = .ok (.aload_n 0, 1) := by decide +kernel
theorem dX12_init_87 : decode cX12_init 87 = .ok (.sipush 309, 3) := by decide +kernel
theorem dX12_init_90 : decode cX12_init 90 = .ok (.newarray .int, 2) := by decide +kernel
theorem dX12_init_92 : decode cX12_init 92 = .ok (.putfield 83, 3) := by decide +kernel
theorem dX12_init_95 : decode cX12_init 95 = .ok (.aload_n 0, 1) := by decide +kernel
theorem dX12_init_96 : decode cX12_init 96 = .ok (.sipush 927, 3) := by decide +kernel
theorem dX12_init_99 : decode cX12_init 99 = .ok (.newarray .int, 2) := by decide +kernel
theorem dX12_init_101 : decode cX12_init 101 = .ok (.putfield 86, 3) := by decide +kernel
theorem dX12_init_104 : decode cX12_init 104 = .ok (.aload_n 0, 1) := by decide +kernel
theorem dX12_init_105 : decode cX12_init 105 = .ok (.sipush 288, 3) := by decide +kernel
theorem dX12_init_108 : decode cX12_init 108 = .ok (.newarray .boolean, 2) := by decide +kernel
theorem dX12_init_110 : decode cX12_init 110 = .ok (.putfield 89, 3) := by decide +kernel
theorem dX12_init_113 : decode cX12_init 113 = .ok (.aload_n 0, 1) := by decide +kernel
theorem dX12_init_114 : decode cX12_init 114 = .ok (.bipush 20, 2) := by decide +kernel
theorem dX12_init_116 : decode cX12_init 116 = .ok (.newarray .int, 2) := by decide +kernel
theorem dX12_init_118 : decode cX12_init 118 = .ok (.putfield 93, 3) := by decide +kernel
theorem dX12_init_121 : decode cX12_init 121 = .ok (.aload_n 0, 1) := by decide +kernel
theorem dX12_init_122 : decode cX12_init 122 = .ok (.sipush 1440, 3) := by decide +kernel
theorem dX12_init_125 : decode cX12_init 125 = .ok (.newarray .long, 2) := by decide +kernel
theorem dX12_init_127 : decode cX12_init 127 = .ok (.putfield 96, 3) := by decide +kernel
theorem dX12_init_130 : decode cX12_init 130 = .ok (.aload_n 0, 1) := by decide +kernel
theorem dX12_init_131 : decode cX12_init 131 = .ok (.sipush 1440, 3) := by decide +kernel
theorem dX12_init_134 : decode cX12_init 134 = .ok (.newarray .long, 2) := by decide +kernel
theorem dX12_init_136 : decode cX12_init 136 = .ok (.putfield 99, 3) := by decide +kernel
theorem dX12_init_139 : decode cX12_init 139 = .ok (.aload_n 0, 1) := by decide +kernel
theorem dX12_init_140 : decode cX12_init 140 = .ok (.sipush 288, 3) := by decide +kernel
theorem dX12_init_143 : decode cX12_init 143 = .ok (.newarray .int, 2) := by decide +kernel
theorem dX12_init_145 : decode cX12_init 145 = .ok (.putfield 102, 3) := by decide +kernel
theorem dX12_init_148 : decode cX12_init 148 = .ok (.aload_n 0, 1) := by decide +kernel
theorem dX12_init_149 : decode cX12_init 149 = .ok (.sipush 288, 3) := by decide +kernel
theorem dX12_init_152 : decode cX12_init 152 = .ok (.newarray .int, 2) := by decide +kernel
theorem dX12_init_154 : decode cX12_init 154 = .ok (.putfield 105, 3) := by decide +kernel
theorem dX12_init_157 : decode cX12_init 157 = .ok (.aload_n 0, 1) := by decide +kernel
theorem dX12_init_158 : decode cX12_init 158 = .ok (.sipush 864, 3) := by decide +kernel
theorem dX12_init_161 : decode cX12_init 161 = .ok (.newarray .int, 2) := by decide +kernel
theorem dX12_init_163 : decode cX12_init 163 = .ok (.putfield 108, 3) := by decide +kernel
theorem dX12_init_166 : decode cX12_init 166 = .ok (.aload_n 0, 1) := by decide +kernel
theorem dX12_init_167 : decode cX12_init 167 = .ok (.sipush 288, 3) := by decide +kernel
theorem dX12_init_170 : decode cX12_init 170 = .ok (.newarray .boolean, 2) := by decide +kernel
theorem dX12_init_172 : decode cX12_init 172 = .ok (.putfield 111, 3) := by decide +kernel
theorem dX12_init_175 : decode cX12_init 175 = .ok (.aload_n 0, 1) := by decide +kernel
theorem dX12_init_176 : decode cX12_init 176 = .ok (.sipush 288, 3) := by decide +kernel
theorem dX12_init_179 : decode cX12_init 179 = .ok (.newarray .boolean, 2) := by decide +kernel
theorem dX12_init_181 : decode cX12_init 181 = .ok (.putfield 114, 3) := by decide +kernel
theorem dX12_init_184 : decode cX12_init 184 = .ok (.aload_n 0, 1) := by decide +kernel
theorem dX12_init_185 : decode cX12_init 185 = .ok (.sipush 288, 3) := by decide +kernel
theorem dX12_init_188 : decode cX12_init 188 = .ok (.newarray .int, 2) := by decide +kernel
theorem dX12_init_190 : decode cX12_init 190 = .ok (.putfield 117, 3) := by decide +kernel
theorem dX12_init_193 : decode cX12_init 193 = .ok (.aload_n 0, 1) := by decide +kernel
theorem dX12_init_194 : decode cX12_init 194 = .ok (.ldc 120, 2) := by decide +kernel
theorem dX12_init_196 : decode cX12_init 196 = .ok (.newarray .int, 2) := by decide +kernel
theorem dX12_init_198 : decode cX12_init 198 = .ok (.putfield 121, 3) := by decide +kernel
theorem dX12_init_201 : decode cX12_init 201 = .ok (.aload_n 0, 1) := by decide +kernel
theorem dX12_init_202 : decode cX12_init 202 = .ok (.sipush 288, 3) := by decide +kernel
theorem dX12_init_205 : decode cX12_init 205 = .ok (.newarray .boolean, 2) := by decide +kernel
theorem dX12_init_207 : decode cX12_init 207 = .ok (.putfield 124, 3) := by decide +kernel
theorem dX12_init_210 : decode cX12_init 210 = .ok (.aload_n 0, 1) := by decide +kernel
theorem dX12_init_211 : decode cX12_init 211 = .ok (.bipush 90, 2) := by decide +kernel
theorem dX12_init_213 : decode cX12_init 213 = .ok (.newarray .int, 2) := by decide +kernel
theorem dX12_init_215 : decode cX12_init 215 = .ok (.putfield 127, 3) := by decide +kernel
theorem dX12_init_218 : decode cX12_init 218 = .ok (.aload_n 0, 1) := by decide +kernel
theorem dX12_init_219 : decode cX12_init 219 = .ok (.sipush 900, 3) := by decide +kernel
theorem dX12_init_222 : decode cX12_init 222 = .ok (.newarray .int, 2) := by decide +kernel
theorem dX12_init_224 : decode cX12_init 224 = .ok (.putfield 130, 3) := by decide +kernel
theorem dX12_init_227 : decode cX12_init 227 = .ok (.aload_n 0, 1) := by decide +kernel
theorem dX12_init_228 : decode cX12_init 228 = .ok (.sipush 288, 3) := by decide +kernel
theorem dX12_init_231 : decode cX12_init 231 = .ok (.newarray .int, 2) := by decide +kernel
theorem dX12_init_233 : decode cX12_init 233 = .ok (.putfield 133, 3) := by decide +kernel
theorem dX12_init_236 : decode cX12_init 236 = .ok (.aload_n 0, 1) := by decide +kernel
theorem dX12_init_237 : decode cX12_init 237 = .ok (.sipush 288, 3) := by decide +kernel
theorem dX12_init_240 : decode cX12_init 240 = .ok (.newarray .int, 2) := by decide +kernel
theorem dX12_init_242 : decode cX12_init 242 = .ok (.putfield 136, 3) := by decide +kernel
theorem dX12_init_245 : decode cX12_init 245 = .ok (.aload_n 0, 1) := by decide +kernel
theorem dX12_init_246 : decode cX12_init 246 = .ok (.sipush 1440, 3) := by decide +kernel
theorem dX12_init_249 : decode cX12_init 249 = .ok (.newarray .int, 2) := by decide +kernel
theorem dX12_init_251 : decode cX12_init 251 = .ok (.putfield 139, 3) := by decide +kernel
theorem dX12_init_254 : decode cX12_init 254 = .ok (.iconst 0, 1) := by decide +kernel
theorem dX12_init_255 : decode cX12_init 255 = .ok (.istore_n 1, 1) := by decide +kernel
theorem dX12_init_256 : decode cX12_init 256 = .ok (.iload_n 1, 1) := by decide +kernel
theorem dX12_init_257 : decode cX12_init 257 = .ok (.sipush 288, 3) := by decide +kernel
theorem dX12_init_260 : decode cX12_init 260 = .ok (.if_icmp .ge 16, 3) := by decide +kernel
theorem dX12_init_263 : decode cX12_init 263 = .ok (.aload_n 0, 1) := by decide +kernel
theorem dX12_init_264 : decode cX12_init 264 = .ok (.getfield 117, 3) := by decide +kernel
theorem dX12_init_267 : decode cX12_init 267 = .ok (.iload_n 1, 1) := by decide +kernel
theorem dX12_init_268 : decode cX12_init 268 = .ok (.iconst (-1), 1) := by decide +kernel
theorem dX12_init_269 : decode cX12_init 269 = .ok (.iastore, 1) := by decide +kernel
theorem dX12_init_270 : decode cX12_init 270 = .ok (.iinc 1 1, 3) := by decide +kernel
theorem dX12_init_273 : decode cX12_init 273 = .ok (.goto (-17), 3) := by decide +kernel
theorem dX12_init_276 : decode cX12_init 276 = .ok (.return_, 1) := by decide +kernel
theorem dX12_feed_0 : decode cX12_feed 0 = .ok (.aload_n 0, 1) := by decide +kernel
theorem dX12_feed_1 : decode cX12_feed 1 = .ok (.iconst 0, 1) := by decide +kernel
theorem dX12_feed_2 : decode cX12_feed 2 = .ok (.putfield 1, 3) := by decide +kernel
theorem dX12_feed_5 : decode cX12_feed 5 = .ok (.aload_n 0, 1) := by decide +kernel
theorem dX12_feed_6 : decode cX12_feed 6 = .ok (.lload_n 1, 1) := by decide +kernel
theorem dX12_feed_7 : decode cX12_feed 7 = .ok (.invokevirtual 7, 3) := by decide +kernel
theorem dX12_feed_10 : decode cX12_feed 10 = .ok (.aload_n 0, 1) := by decide +kernel
theorem dX12_feed_11 : decode cX12_feed 11 = .ok (.lload_n 3, 1) := by decide +kernel
theorem dX12_feed_12 : decode cX12_feed 12 = .ok (.invokevirtual 7, 3) := by decide +kernel
theorem dX12_feed_15 : decode cX12_feed 15 = .ok (.aload_n 0, 1) := by decide +kernel
theorem dX12_feed_16 : decode cX12_feed 16 = .ok (.lload 5, 2) := by decide +kernel
theorem dX12_feed_18 : decode cX12_feed 18 = .ok (.invokevirtual 7, 3) := by decide +kernel
theorem dX12_feed_21 : decode cX12_feed 21 = .ok (.aload_n 0, 1) := by decide +kernel
theorem dX12_feed_22 : decode cX12_feed 22 = .ok (.getfield 11, 3) := by decide +kernel
theorem dX12_feed_25 : decode cX12_feed 25 = .ok (.ireturn, 1) := by decide +kernel
theorem dX12_lay_0 : decode cX12_lay 0 = .ok (.bipush 56, 2) := by decide +kernel
theorem dX12_lay_2 : decode cX12_lay 2 = .ok (.istore_n 3, 1) := by decide +kernel
theorem dX12_lay_3 : decode cX12_lay 3 = .ok (.iload_n 3, 1) := by decide +kernel
theorem dX12_lay_4 : decode cX12_lay 4 = .ok (.ifCond .lt 63, 3) := by decide +kernel
theorem dX12_lay_7 : decode cX12_lay 7 = .ok (.lload_n 1, 1) := by decide +kernel
theorem dX12_lay_8 : decode cX12_lay 8 = .ok (.iload_n 3, 1) := by decide +kernel
theorem dX12_lay_9 : decode cX12_lay 9 = .ok (.lshr, 1) := by decide +kernel
theorem dX12_lay_10 : decode cX12_lay 10 = .ok (.l2i, 1) := by decide +kernel
theorem dX12_lay_11 : decode cX12_lay 11 = .ok (.sipush 255, 3) := by decide +kernel
theorem dX12_lay_14 : decode cX12_lay 14 = .ok (.iand, 1) := by decide +kernel
theorem dX12_lay_15 : decode cX12_lay 15 = .ok (.istore 4, 2) := by decide +kernel
theorem dX12_lay_17 : decode cX12_lay 17 = .ok (.iload 4, 2) := by decide +kernel
theorem dX12_lay_19 : decode cX12_lay 19 = .ok (.bipush 32, 2) := by decide +kernel
theorem dX12_lay_21 : decode cX12_lay 21 = .ok (.if_icmp .lt 40, 3) := by decide +kernel
theorem dX12_lay_24 : decode cX12_lay 24 = .ok (.iload 4, 2) := by decide +kernel
theorem dX12_lay_26 : decode cX12_lay 26 = .ok (.bipush 126, 2) := by decide +kernel
theorem dX12_lay_28 : decode cX12_lay 28 = .ok (.if_icmp .gt 33, 3) := by decide +kernel
theorem dX12_lay_31 : decode cX12_lay 31 = .ok (.aload_n 0, 1) := by decide +kernel
theorem dX12_lay_32 : decode cX12_lay 32 = .ok (.getfield 11, 3) := by decide +kernel
theorem dX12_lay_35 : decode cX12_lay 35 = .ok (.bipush 120, 2) := by decide +kernel
theorem dX12_lay_37 : decode cX12_lay 37 = .ok (.if_icmp .ge 24, 3) := by decide +kernel
theorem dX12_lay_40 : decode cX12_lay 40 = .ok (.aload_n 0, 1) := by decide +kernel
theorem dX12_lay_41 : decode cX12_lay 41 = .ok (.getfield 14, 3) := by decide +kernel
theorem dX12_lay_44 : decode cX12_lay 44 = .ok (.aload_n 0, 1) := by decide +kernel
theorem dX12_lay_45 : decode cX12_lay 45 = .ok (.getfield 11, 3) := by decide +kernel
theorem dX12_lay_48 : decode cX12_lay 48 = .ok (.iload 4, 2) := by decide +kernel
theorem dX12_lay_50 : decode cX12_lay 50 = .ok (.iastore, 1) := by decide +kernel
theorem dX12_lay_51 : decode cX12_lay 51 = .ok (.aload_n 0, 1) := by decide +kernel
theorem dX12_lay_52 : decode cX12_lay 52 = .ok (.dup, 1) := by decide +kernel
theorem dX12_lay_53 : decode cX12_lay 53 = .ok (.getfield 11, 3) := by decide +kernel
theorem dX12_lay_56 : decode cX12_lay 56 = .ok (.iconst 1, 1) := by decide +kernel
theorem dX12_lay_57 : decode cX12_lay 57 = .ok (.iadd, 1) := by decide +kernel
theorem dX12_lay_58 : decode cX12_lay 58 = .ok (.putfield 11, 3) := by decide +kernel
theorem dX12_lay_61 : decode cX12_lay 61 = .ok (.iinc 3 (-8), 3) := by decide +kernel
theorem dX12_lay_64 : decode cX12_lay 64 = .ok (.goto (-61), 3) := by decide +kernel
theorem dX12_lay_67 : decode cX12_lay 67 = .ok (.return_, 1) := by decide +kernel
theorem dX12_cutAll_0 : decode cX12_cutAll 0 = .ok (.aload_n 0, 1) := by decide +kernel
theorem dX12_cutAll_1 : decode cX12_cutAll 1 = .ok (.aload_n 0, 1) := by decide +kernel
theorem dX12_cutAll_2 : decode cX12_cutAll 2 = .ok (.getfield 11, 3) := by decide +kernel
theorem dX12_cutAll_5 : decode cX12_cutAll 5 = .ok (.putfield 18, 3) := by decide +kernel
theorem dX12_cutAll_8 : decode cX12_cutAll 8 = .ok (.aload_n 0, 1) := by decide +kernel
theorem dX12_cutAll_9 : decode cX12_cutAll 9 = .ok (.iconst 0, 1) := by decide +kernel
theorem dX12_cutAll_10 : decode cX12_cutAll 10 = .ok (.putfield 11, 3) := by decide +kernel
theorem dX12_cutAll_13 : decode cX12_cutAll 13 = .ok (.iconst 0, 1) := by decide +kernel
theorem dX12_cutAll_14 : decode cX12_cutAll 14 = .ok (.istore_n 1, 1) := by decide +kernel
theorem dX12_cutAll_15 : decode cX12_cutAll 15 = .ok (.iconst 0, 1) := by decide +kernel
theorem dX12_cutAll_16 : decode cX12_cutAll 16 = .ok (.istore_n 2, 1) := by decide +kernel
theorem dX12_cutAll_17 : decode cX12_cutAll 17 = .ok (.iload_n 2, 1) := by decide +kernel
theorem dX12_cutAll_18 : decode cX12_cutAll 18 = .ok (.aload_n 0, 1) := by decide +kernel
theorem dX12_cutAll_19 : decode cX12_cutAll 19 = .ok (.getfield 18, 3) := by decide +kernel
theorem dX12_cutAll_22 : decode cX12_cutAll 22 = .ok (.if_icmp .ge 252, 3) := by decide +kernel
theorem dX12_cutAll_25 : decode cX12_cutAll 25 = .ok (.aload_n 0, 1) := by decide +kernel
theorem dX12_cutAll_26 : decode cX12_cutAll 26 = .ok (.getfield 14, 3) := by decide +kernel
theorem dX12_cutAll_29 : decode cX12_cutAll 29 = .ok (.iload_n 2, 1) := by decide +kernel
theorem dX12_cutAll_30 : decode cX12_cutAll 30 = .ok (.iaload, 1) := by decide +kernel
theorem dX12_cutAll_31 : decode cX12_cutAll 31 = .ok (.istore_n 3, 1) := by decide +kernel
theorem dX12_cutAll_32 : decode cX12_cutAll 32 = .ok (.iload_n 3, 1) := by decide +kernel
theorem dX12_cutAll_33 : decode cX12_cutAll 33 = .ok (.bipush 32, 2) := by decide +kernel
theorem dX12_cutAll_35 : decode cX12_cutAll 35 = .ok (.if_icmp .ne 9, 3) := by decide +kernel
theorem dX12_cutAll_38 : decode cX12_cutAll 38 = .ok (.iinc 2 1, 3) := by decide +kernel
theorem dX12_cutAll_41 : decode cX12_cutAll 41 = .ok (.goto (-24), 3) := by decide +kernel
theorem dX12_cutAll_44 : decode cX12_cutAll 44 = .ok (.iload_n 2, 1) := by decide +kernel
theorem dX12_cutAll_45 : decode cX12_cutAll 45 = .ok (.istore 4, 2) := by decide +kernel
theorem dX12_cutAll_47 : decode cX12_cutAll 47 = .ok (.lconst 0, 1) := by decide +kernel
theorem dX12_cutAll_48 : decode cX12_cutAll 48 = .ok (.lstore 5, 2) := by decide +kernel
theorem dX12_cutAll_50 : decode cX12_cutAll 50 = .ok (.aload_n 0, 1) := by decide +kernel
theorem dX12_cutAll_51 : decode cX12_cutAll 51 = .ok (.getfield 21, 3) := by decide +kernel
theorem dX12_cutAll_54 : decode cX12_cutAll 54 = .ok (.iload_n 1, 1) := by decide +kernel
theorem dX12_cutAll_55 : decode cX12_cutAll 55 = .ok (.iload_n 2, 1) := by decide +kernel
theorem dX12_cutAll_56 : decode cX12_cutAll 56 = .ok (.iastore, 1) := by decide +kernel
theorem dX12_cutAll_57 : decode cX12_cutAll 57 = .ok (.iload_n 3, 1) := by decide +kernel
theorem dX12_cutAll_58 : decode cX12_cutAll 58 = .ok (.invokestatic 24, 3) := by decide +kernel
theorem dX12_cutAll_61 : decode cX12_cutAll 61 = .ok (.ifCond .eq 84, 3) := by decide +kernel
theorem dX12_cutAll_64 : decode cX12_cutAll 64 = .ok (.iload_n 2, 1) := by decide +kernel
theorem dX12_cutAll_65 : decode cX12_cutAll 65 = .ok (.aload_n 0, 1) := by decide +kernel
theorem dX12_cutAll_66 : decode cX12_cutAll 66 = .ok (.getfield 18, 3) := by decide +kernel
theorem dX12_cutAll_69 : decode cX12_cutAll 69 = .ok (.if_icmp .ge 54, 3) := by decide +kernel
theorem dX12_cutAll_72 : decode cX12_cutAll 72 = .ok (.aload_n 0, 1) := by decide +kernel
theorem dX12_cutAll_73 : decode cX12_cutAll 73 = .ok (.getfield 14, 3) := by decide +kernel
theorem dX12_cutAll_76 : decode cX12_cutAll 76 = .ok (.iload_n 2, 1) := by decide +kernel
theorem dX12_cutAll_77 : decode cX12_cutAll 77 = .ok (.iaload, 1) := by decide +kernel
theorem dX12_cutAll_78 : decode cX12_cutAll 78 = .ok (.invokestatic 24, 3) := by decide +kernel
theorem dX12_cutAll_81 : decode cX12_cutAll 81 = .ok (.ifCond .eq 42, 3) := by decide +kernel
theorem dX12_cutAll_84 : decode cX12_cutAll 84 = .ok (.iload_n 2, 1) := by decide +kernel
theorem dX12_cutAll_85 : decode cX12_cutAll 85 = .ok (.iload 4, 2) := by decide +kernel
theorem dX12_cutAll_87 : decode cX12_cutAll 87 = .ok (.isub, 1) := by decide +kernel
theorem dX12_cutAll_88 : decode cX12_cutAll 88 = .ok (.iconst 3, 1) := by decide +kernel
theorem dX12_cutAll_89 : decode cX12_cutAll 89 = .ok (.if_icmp .ge 24, 3) := by decide +kernel
theorem dX12_cutAll_92 : decode cX12_cutAll 92 = .ok (.ldc2_w 28, 3) := by decide +kernel
theorem dX12_cutAll_95 : decode cX12_cutAll 95 = .ok (.lload 5, 2) := by decide +kernel
theorem dX12_cutAll_97 : decode cX12_cutAll 97 = .ok (.lmul, 1) := by decide +kernel
theorem dX12_cutAll_98 : decode cX12_cutAll 98 = .ok (.aload_n 0, 1) := by decide +kernel
theorem dX12_cutAll_99 : decode cX12_cutAll 99 = .ok (.getfield 14, 3) := by decide +kernel
theorem dX12_cutAll_102 : decode cX12_cutAll 102 = .ok (.iload_n 2, 1) := by decide +kernel
theorem dX12_cutAll_103 : decode cX12_cutAll 103 = .ok (.iaload, 1) := by decide +kernel
theorem dX12_cutAll_104 : decode cX12_cutAll 104 = .ok (.i2l, 1) := by decide +kernel
theorem dX12_cutAll_105 : decode cX12_cutAll 105 = .ok (.ladd, 1) := by decide +kernel
theorem dX12_cutAll_106 : decode cX12_cutAll 106 = .ok (.ldc2_w 30, 3) := by decide +kernel
theorem dX12_cutAll_109 : decode cX12_cutAll 109 = .ok (.lsub, 1) := by decide +kernel
theorem dX12_cutAll_110 : decode cX12_cutAll 110 = .ok (.goto 5, 3) := by decide +kernel
theorem dX12_cutAll_113 : decode cX12_cutAll 113 = .ok (.lload 5, 2) := by decide +kernel
theorem dX12_cutAll_115 : decode cX12_cutAll 115 = .ok (.lstore 5, 2) := by decide +kernel
theorem dX12_cutAll_117 : decode cX12_cutAll 117 = .ok (.iinc 2 1, 3) := by decide +kernel
theorem dX12_cutAll_120 : decode cX12_cutAll 120 = .ok (.goto (-56), 3) := by decide +kernel
theorem dX12_cutAll_123 : decode cX12_cutAll 123 = .ok (.aload_n 0, 1) := by decide +kernel
theorem dX12_cutAll_124 : decode cX12_cutAll 124 = .ok (.getfield 32, 3) := by decide +kernel
theorem dX12_cutAll_127 : decode cX12_cutAll 127 = .ok (.iload_n 1, 1) := by decide +kernel
theorem dX12_cutAll_128 : decode cX12_cutAll 128 = .ok (.iload_n 2, 1) := by decide +kernel
theorem dX12_cutAll_129 : decode cX12_cutAll 129 = .ok (.iload 4, 2) := by decide +kernel
theorem dX12_cutAll_131 : decode cX12_cutAll 131 = .ok (.isub, 1) := by decide +kernel
theorem dX12_cutAll_132 : decode cX12_cutAll 132 = .ok (.iconst 3, 1) := by decide +kernel
theorem dX12_cutAll_133 : decode cX12_cutAll 133 = .ok (.if_icmp .le 7, 3) := by decide +kernel
theorem dX12_cutAll_136 : decode cX12_cutAll 136 = .ok (.iconst 4, 1) := by decide +kernel
theorem dX12_cutAll_137 : decode cX12_cutAll 137 = .ok (.goto 4, 3) := by decide +kernel
theorem dX12_cutAll_140 : decode cX12_cutAll 140 = .ok (.iconst 1, 1) := by decide +kernel
theorem dX12_cutAll_141 : decode cX12_cutAll 141 = .ok (.iastore, 1) := by decide +kernel
theorem dX12_cutAll_142 : decode cX12_cutAll 142 = .ok (.goto 118, 3) := by decide +kernel
theorem dX12_cutAll_145 : decode cX12_cutAll 145 = .ok (.iload_n 3, 1) := by decide +kernel
theorem dX12_cutAll_146 : decode cX12_cutAll 146 = .ok (.invokestatic 35, 3) := by decide +kernel
theorem dX12_cutAll_149 : decode cX12_cutAll 149 = .ok (.ifCond .eq 86, 3) := by decide +kernel
theorem dX12_cutAll_152 : decode cX12_cutAll 152 = .ok (.iload_n 2, 1) := by decide +kernel
theorem dX12_cutAll_153 : decode cX12_cutAll 153 = .ok (.aload_n 0, 1) := by decide +kernel
theorem dX12_cutAll_154 : decode cX12_cutAll 154 = .ok (.getfield 18, 3) := by decide +kernel
theorem dX12_cutAll_157 : decode cX12_cutAll 157 = .ok (.if_icmp .ge 55, 3) := by decide +kernel
theorem dX12_cutAll_160 : decode cX12_cutAll 160 = .ok (.aload_n 0, 1) := by decide +kernel
theorem dX12_cutAll_161 : decode cX12_cutAll 161 = .ok (.getfield 14, 3) := by decide +kernel
theorem dX12_cutAll_164 : decode cX12_cutAll 164 = .ok (.iload_n 2, 1) := by decide +kernel
theorem dX12_cutAll_165 : decode cX12_cutAll 165 = .ok (.iaload, 1) := by decide +kernel
theorem dX12_cutAll_166 : decode cX12_cutAll 166 = .ok (.invokestatic 35, 3) := by decide +kernel
theorem dX12_cutAll_169 : decode cX12_cutAll 169 = .ok (.ifCond .eq 43, 3) := by decide +kernel
theorem dX12_cutAll_172 : decode cX12_cutAll 172 = .ok (.iload_n 2, 1) := by decide +kernel
theorem dX12_cutAll_173 : decode cX12_cutAll 173 = .ok (.iload 4, 2) := by decide +kernel
theorem dX12_cutAll_175 : decode cX12_cutAll 175 = .ok (.isub, 1) := by decide +kernel
theorem dX12_cutAll_176 : decode cX12_cutAll 176 = .ok (.bipush 6, 2) := by decide +kernel
theorem dX12_cutAll_178 : decode cX12_cutAll 178 = .ok (.if_icmp .ge 24, 3) := by decide +kernel
theorem dX12_cutAll_181 : decode cX12_cutAll 181 = .ok (.ldc2_w 38, 3) := by decide +kernel
theorem dX12_cutAll_184 : decode cX12_cutAll 184 = .ok (.lload 5, 2) := by decide +kernel
theorem dX12_cutAll_186 : decode cX12_cutAll 186 = .ok (.lmul, 1) := by decide +kernel
theorem dX12_cutAll_187 : decode cX12_cutAll 187 = .ok (.aload_n 0, 1) := by decide +kernel
theorem dX12_cutAll_188 : decode cX12_cutAll 188 = .ok (.getfield 14, 3) := by decide +kernel
theorem dX12_cutAll_191 : decode cX12_cutAll 191 = .ok (.iload_n 2, 1) := by decide +kernel
theorem dX12_cutAll_192 : decode cX12_cutAll 192 = .ok (.iaload, 1) := by decide +kernel
theorem dX12_cutAll_193 : decode cX12_cutAll 193 = .ok (.i2l, 1) := by decide +kernel
theorem dX12_cutAll_194 : decode cX12_cutAll 194 = .ok (.ladd, 1) := by decide +kernel
theorem dX12_cutAll_195 : decode cX12_cutAll 195 = .ok (.ldc2_w 40, 3) := by decide +kernel
theorem dX12_cutAll_198 : decode cX12_cutAll 198 = .ok (.lsub, 1) := by decide +kernel
theorem dX12_cutAll_199 : decode cX12_cutAll 199 = .ok (.goto 5, 3) := by decide +kernel
theorem dX12_cutAll_202 : decode cX12_cutAll 202 = .ok (.lload 5, 2) := by decide +kernel
theorem dX12_cutAll_204 : decode cX12_cutAll 204 = .ok (.lstore 5, 2) := by decide +kernel
theorem dX12_cutAll_206 : decode cX12_cutAll 206 = .ok (.iinc 2 1, 3) := by decide +kernel
theorem dX12_cutAll_209 : decode cX12_cutAll 209 = .ok (.goto (-57), 3) := by decide +kernel
theorem dX12_cutAll_212 : decode cX12_cutAll 212 = .ok (.aload_n 0, 1) := by decide +kernel
theorem dX12_cutAll_213 : decode cX12_cutAll 213 = .ok (.getfield 32, 3) := by decide +kernel
theorem dX12_cutAll_216 : decode cX12_cutAll 216 = .ok (.iload_n 1, 1) := by decide +kernel
theorem dX12_cutAll_217 : decode cX12_cutAll 217 = .ok (.iload_n 2, 1) := by decide +kernel
theorem dX12_cutAll_218 : decode cX12_cutAll 218 = .ok (.iload 4, 2) := by decide +kernel
theorem dX12_cutAll_220 : decode cX12_cutAll 220 = .ok (.isub, 1) := by decide +kernel
theorem dX12_cutAll_221 : decode cX12_cutAll 221 = .ok (.bipush 6, 2) := by decide +kernel
theorem dX12_cutAll_223 : decode cX12_cutAll 223 = .ok (.if_icmp .le 7, 3) := by decide +kernel
theorem dX12_cutAll_226 : decode cX12_cutAll 226 = .ok (.iconst 4, 1) := by decide +kernel
theorem dX12_cutAll_227 : decode cX12_cutAll 227 = .ok (.goto 4, 3) := by decide +kernel
theorem dX12_cutAll_230 : decode cX12_cutAll 230 = .ok (.iconst 2, 1) := by decide +kernel
theorem dX12_cutAll_231 : decode cX12_cutAll 231 = .ok (.iastore, 1) := by decide +kernel
theorem dX12_cutAll_232 : decode cX12_cutAll 232 = .ok (.goto 28, 3) := by decide +kernel
theorem dX12_cutAll_235 : decode cX12_cutAll 235 = .ok (.iload_n 3, 1) := by decide +kernel
theorem dX12_cutAll_236 : decode cX12_cutAll 236 = .ok (.i2l, 1) := by decide +kernel
theorem dX12_cutAll_237 : decode cX12_cutAll 237 = .ok (.lstore 5, 2) := by decide +kernel
theorem dX12_cutAll_239 : decode cX12_cutAll 239 = .ok (.aload_n 0, 1) := by decide +kernel
theorem dX12_cutAll_240 : decode cX12_cutAll 240 = .ok (.getfield 32, 3) := by decide +kernel
theorem dX12_cutAll_243 : decode cX12_cutAll 243 = .ok (.iload_n 1, 1) := by decide +kernel
theorem dX12_cutAll_244 : decode cX12_cutAll 244 = .ok (.iload_n 3, 1) := by decide +kernel
theorem dX12_cutAll_245 : decode cX12_cutAll 245 = .ok (.invokestatic 42, 3) := by decide +kernel
theorem dX12_cutAll_248 : decode cX12_cutAll 248 = .ok (.ifCond .eq 7, 3) := by decide +kernel
theorem dX12_cutAll_251 : decode cX12_cutAll 251 = .ok (.iconst 3, 1) := by decide +kernel
theorem dX12_cutAll_252 : decode cX12_cutAll 252 = .ok (.goto 4, 3) := by decide +kernel
theorem dX12_cutAll_255 : decode cX12_cutAll 255 = .ok (.iconst 4, 1) := by decide +kernel
theorem dX12_cutAll_256 : decode cX12_cutAll 256 = .ok (.iastore, 1) := by decide +kernel
theorem dX12_cutAll_257 : decode cX12_cutAll 257 = .ok (.iinc 2 1, 3) := by decide +kernel
theorem dX12_cutAll_260 : decode cX12_cutAll 260 = .ok (.aload_n 0, 1) := by decide +kernel
theorem dX12_cutAll_261 : decode cX12_cutAll 261 = .ok (.getfield 45, 3) := by decide +kernel
theorem dX12_cutAll_264 : decode cX12_cutAll 264 = .ok (.iload_n 1, 1) := by decide +kernel
theorem dX12_cutAll_265 : decode cX12_cutAll 265 = .ok (.lload 5, 2) := by decide +kernel
theorem dX12_cutAll_267 : decode cX12_cutAll 267 = .ok (.lastore, 1) := by decide +kernel
theorem dX12_cutAll_268 : decode cX12_cutAll 268 = .ok (.iinc 1 1, 3) := by decide +kernel
theorem dX12_cutAll_271 : decode cX12_cutAll 271 = .ok (.goto (-254), 3) := by decide +kernel
theorem dX12_cutAll_274 : decode cX12_cutAll 274 = .ok (.aload_n 0, 1) := by decide +kernel
theorem dX12_cutAll_275 : decode cX12_cutAll 275 = .ok (.getfield 32, 3) := by decide +kernel
theorem dX12_cutAll_278 : decode cX12_cutAll 278 = .ok (.iload_n 1, 1) := by decide +kernel
theorem dX12_cutAll_279 : decode cX12_cutAll 279 = .ok (.iconst 0, 1) := by decide +kernel
theorem dX12_cutAll_280 : decode cX12_cutAll 280 = .ok (.iastore, 1) := by decide +kernel
theorem dX12_cutAll_281 : decode cX12_cutAll 281 = .ok (.aload_n 0, 1) := by decide +kernel
theorem dX12_cutAll_282 : decode cX12_cutAll 282 = .ok (.getfield 21, 3) := by decide +kernel
theorem dX12_cutAll_285 : decode cX12_cutAll 285 = .ok (.iload_n 1, 1) := by decide +kernel
theorem dX12_cutAll_286 : decode cX12_cutAll 286 = .ok (.aload_n 0, 1) := by decide +kernel
theorem dX12_cutAll_287 : decode cX12_cutAll 287 = .ok (.getfield 18, 3) := by decide +kernel
theorem dX12_cutAll_290 : decode cX12_cutAll 290 = .ok (.iastore, 1) := by decide +kernel
theorem dX12_cutAll_291 : decode cX12_cutAll 291 = .ok (.aload_n 0, 1) := by decide +kernel
theorem dX12_cutAll_292 : decode cX12_cutAll 292 = .ok (.iconst 0, 1) := by decide +kernel
theorem dX12_cutAll_293 : decode cX12_cutAll 293 = .ok (.putfield 49, 3) := by decide +kernel
theorem dX12_cutAll_296 : decode cX12_cutAll 296 = .ok (.aload_n 0, 1) := by decide +kernel
theorem dX12_cutAll_297 : decode cX12_cutAll 297 = .ok (.iconst 0, 1) := by decide +kernel
theorem dX12_cutAll_298 : decode cX12_cutAll 298 = .ok (.putfield 52, 3) := by decide +kernel
theorem dX12_cutAll_301 : decode cX12_cutAll 301 = .ok (.return_, 1) := by decide +kernel
theorem dX12_wrong_0 : decode cX12_wrong 0 = .ok (.aload_n 0, 1) := by decide +kernel
theorem dX12_wrong_1 : decode cX12_wrong 1 = .ok (.getfield 52, 3) := by decide +kernel
theorem dX12_wrong_4 : decode cX12_wrong 4 = .ok (.ifCond .ne 21, 3) := by decide +kernel
theorem dX12_wrong_7 : decode cX12_wrong 7 = .ok (.aload_n 0, 1) := by decide +kernel
theorem dX12_wrong_8 : decode cX12_wrong 8 = .ok (.iload_n 1, 1) := by decide +kernel
theorem dX12_wrong_9 : decode cX12_wrong 9 = .ok (.bipush 16, 2) := by decide +kernel
theorem dX12_wrong_11 : decode cX12_wrong 11 = .ok (.aload_n 0, 1) := by decide +kernel
theorem dX12_wrong_12 : decode cX12_wrong 12 = .ok (.getfield 21, 3) := by decide +kernel
theorem dX12_wrong_15 : decode cX12_wrong 15 = .ok (.aload_n 0, 1) := by decide +kernel
theorem dX12_wrong_16 : decode cX12_wrong 16 = .ok (.getfield 49, 3) := by decide +kernel
theorem dX12_wrong_19 : decode cX12_wrong 19 = .ok (.iaload, 1) := by decide +kernel
theorem dX12_wrong_20 : decode cX12_wrong 20 = .ok (.imul, 1) := by decide +kernel
theorem dX12_wrong_21 : decode cX12_wrong 21 = .ok (.iadd, 1) := by decide +kernel
theorem dX12_wrong_22 : decode cX12_wrong 22 = .ok (.putfield 52, 3) := by decide +kernel
theorem dX12_wrong_25 : decode cX12_wrong 25 = .ok (.return_, 1) := by decide +kernel
theorem dX12_isSign_0 : decode cX12_isSign 0 = .ok (.aload_n 0, 1) := by decide +kernel
theorem dX12_isSign_1 : decode cX12_isSign 1 = .ok (.getfield 52, 3) := by decide +kernel
theorem dX12_isSign_4 : decode cX12_isSign 4 = .ok (.ifCond .ne 35, 3) := by decide +kernel
theorem dX12_isSign_7 : decode cX12_isSign 7 = .ok (.aload_n 0, 1) := by decide +kernel
theorem dX12_isSign_8 : decode cX12_isSign 8 = .ok (.getfield 32, 3) := by decide +kernel
theorem dX12_isSign_11 : decode cX12_isSign 11 = .ok (.aload_n 0, 1) := by decide +kernel
theorem dX12_isSign_12 : decode cX12_isSign 12 = .ok (.getfield 49, 3) := by decide +kernel
theorem dX12_isSign_15 : decode cX12_isSign 15 = .ok (.iaload, 1) := by decide +kernel
theorem dX12_isSign_16 : decode cX12_isSign 16 = .ok (.iconst 3, 1) := by decide +kernel
theorem dX12_isSign_17 : decode cX12_isSign 17 = .ok (.if_icmp .ne 22, 3) := by decide +kernel
theorem dX12_isSign_20 : decode cX12_isSign 20 = .ok (.aload_n 0, 1) := by decide +kernel
theorem dX12_isSign_21 : decode cX12_isSign 21 = .ok (.getfield 45, 3) := by decide +kernel
theorem dX12_isSign_24 : decode cX12_isSign 24 = .ok (.aload_n 0, 1) := by decide +kernel
theorem dX12_isSign_25 : decode cX12_isSign 25 = .ok (.getfield 49, 3) := by decide +kernel
theorem dX12_isSign_28 : decode cX12_isSign 28 = .ok (.laload, 1) := by decide +kernel
theorem dX12_isSign_29 : decode cX12_isSign 29 = .ok (.iload_n 1, 1) := by decide +kernel
theorem dX12_isSign_30 : decode cX12_isSign 30 = .ok (.i2l, 1) := by decide +kernel
theorem dX12_isSign_31 : decode cX12_isSign 31 = .ok (.lcmp, 1) := by decide +kernel
theorem dX12_isSign_32 : decode cX12_isSign 32 = .ok (.ifCond .ne 7, 3) := by decide +kernel
theorem dX12_isSign_35 : decode cX12_isSign 35 = .ok (.iconst 1, 1) := by decide +kernel
theorem dX12_isSign_36 : decode cX12_isSign 36 = .ok (.goto 4, 3) := by decide +kernel
theorem dX12_isSign_39 : decode cX12_isSign 39 = .ok (.iconst 0, 1) := by decide +kernel
theorem dX12_isSign_40 : decode cX12_isSign 40 = .ok (.ireturn, 1) := by decide +kernel
theorem dX12_isSum_0 : decode cX12_isSum 0 = .ok (.aload_n 0, 1) := by decide +kernel
theorem dX12_isSum_1 : decode cX12_isSum 1 = .ok (.getfield 52, 3) := by decide +kernel
theorem dX12_isSum_4 : decode cX12_isSum 4 = .ok (.ifCond .ne 36, 3) := by decide +kernel
theorem dX12_isSum_7 : decode cX12_isSum 7 = .ok (.aload_n 0, 1) := by decide +kernel
theorem dX12_isSum_8 : decode cX12_isSum 8 = .ok (.getfield 32, 3) := by decide +kernel
theorem dX12_isSum_11 : decode cX12_isSum 11 = .ok (.aload_n 0, 1) := by decide +kernel
theorem dX12_isSum_12 : decode cX12_isSum 12 = .ok (.getfield 49, 3) := by decide +kernel
theorem dX12_isSum_15 : decode cX12_isSum 15 = .ok (.iaload, 1) := by decide +kernel
theorem dX12_isSum_16 : decode cX12_isSum 16 = .ok (.iconst 1, 1) := by decide +kernel
theorem dX12_isSum_17 : decode cX12_isSum 17 = .ok (.if_icmp .ne 23, 3) := by decide +kernel
theorem dX12_isSum_20 : decode cX12_isSum 20 = .ok (.aload_n 0, 1) := by decide +kernel
theorem dX12_isSum_21 : decode cX12_isSum 21 = .ok (.getfield 45, 3) := by decide +kernel
theorem dX12_isSum_24 : decode cX12_isSum 24 = .ok (.aload_n 0, 1) := by decide +kernel
theorem dX12_isSum_25 : decode cX12_isSum 25 = .ok (.getfield 49, 3) := by decide +kernel
theorem dX12_isSum_28 : decode cX12_isSum 28 = .ok (.laload, 1) := by decide +kernel
theorem dX12_isSum_29 : decode cX12_isSum 29 = .ok (.ldc2_w 151, 3) := by decide +kernel
theorem dX12_isSum_32 : decode cX12_isSum 32 = .ok (.lcmp, 1) := by decide +kernel
theorem dX12_isSum_33 : decode cX12_isSum 33 = .ok (.ifCond .ne 7, 3) := by decide +kernel
theorem dX12_isSum_36 : decode cX12_isSum 36 = .ok (.iconst 1, 1) := by decide +kernel
theorem dX12_isSum_37 : decode cX12_isSum 37 = .ok (.goto 4, 3) := by decide +kernel
theorem dX12_isSum_40 : decode cX12_isSum 40 = .ok (.iconst 0, 1) := by decide +kernel
theorem dX12_isSum_41 : decode cX12_isSum 41 = .ok (.ireturn, 1) := by decide +kernel
theorem dX12_isColumn_0 : decode cX12_isColumn 0 = .ok (.aload_n 0, 1) := by decide +kernel
theorem dX12_isColumn_1 : decode cX12_isColumn 1 = .ok (.getfield 52, 3) := by decide +kernel
theorem dX12_isColumn_4 : decode cX12_isColumn 4 = .ok (.ifCond .ne 50, 3) := by decide +kernel
theorem dX12_isColumn_7 : decode cX12_isColumn 7 = .ok (.aload_n 0, 1) := by decide +kernel
theorem dX12_isColumn_8 : decode cX12_isColumn 8 = .ok (.getfield 32, 3) := by decide +kernel
theorem dX12_isColumn_11 : decode cX12_isColumn 11 = .ok (.aload_n 0, 1) := by decide +kernel
theorem dX12_isColumn_12 : decode cX12_isColumn 12 = .ok (.getfield 49, 3) := by decide +kernel
theorem dX12_isColumn_15 : decode cX12_isColumn 15 = .ok (.iaload, 1) := by decide +kernel
theorem dX12_isColumn_16 : decode cX12_isColumn 16 = .ok (.iconst 1, 1) := by decide +kernel
theorem dX12_isColumn_17 : decode cX12_isColumn 17 = .ok (.if_icmp .ne 37, 3) := by decide +kernel
theorem dX12_isColumn_20 : decode cX12_isColumn 20 = .ok (.aload_n 0, 1) := by decide +kernel
theorem dX12_isColumn_21 : decode cX12_isColumn 21 = .ok (.getfield 45, 3) := by decide +kernel
theorem dX12_isColumn_24 : decode cX12_isColumn 24 = .ok (.aload_n 0, 1) := by decide +kernel
theorem dX12_isColumn_25 : decode cX12_isColumn 25 = .ok (.getfield 49, 3) := by decide +kernel
theorem dX12_isColumn_28 : decode cX12_isColumn 28 = .ok (.laload, 1) := by decide +kernel
theorem dX12_isColumn_29 : decode cX12_isColumn 29 = .ok (.lconst 1, 1) := by decide +kernel
theorem dX12_isColumn_30 : decode cX12_isColumn 30 = .ok (.lcmp, 1) := by decide +kernel
theorem dX12_isColumn_31 : decode cX12_isColumn 31 = .ok (.ifCond .lt 23, 3) := by decide +kernel
theorem dX12_isColumn_34 : decode cX12_isColumn 34 = .ok (.aload_n 0, 1) := by decide +kernel
theorem dX12_isColumn_35 : decode cX12_isColumn 35 = .ok (.getfield 45, 3) := by decide +kernel
theorem dX12_isColumn_38 : decode cX12_isColumn 38 = .ok (.aload_n 0, 1) := by decide +kernel
theorem dX12_isColumn_39 : decode cX12_isColumn 39 = .ok (.getfield 49, 3) := by decide +kernel
theorem dX12_isColumn_42 : decode cX12_isColumn 42 = .ok (.laload, 1) := by decide +kernel
theorem dX12_isColumn_43 : decode cX12_isColumn 43 = .ok (.ldc2_w 153, 3) := by decide +kernel
theorem dX12_isColumn_46 : decode cX12_isColumn 46 = .ok (.lcmp, 1) := by decide +kernel
theorem dX12_isColumn_47 : decode cX12_isColumn 47 = .ok (.ifCond .gt 7, 3) := by decide +kernel
theorem dX12_isColumn_50 : decode cX12_isColumn 50 = .ok (.iconst 1, 1) := by decide +kernel
theorem dX12_isColumn_51 : decode cX12_isColumn 51 = .ok (.goto 4, 3) := by decide +kernel
theorem dX12_isColumn_54 : decode cX12_isColumn 54 = .ok (.iconst 0, 1) := by decide +kernel
theorem dX12_isColumn_55 : decode cX12_isColumn 55 = .ok (.ireturn, 1) := by decide +kernel
theorem dX12_readE_0 : decode cX12_readE 0 = .ok (.aload_n 0, 1) := by decide +kernel
theorem dX12_readE_1 : decode cX12_readE 1 = .ok (.invokevirtual 155, 3) := by decide +kernel
theorem dX12_readE_4 : decode cX12_readE 4 = .ok (.aload_n 0, 1) := by decide +kernel
theorem dX12_readE_5 : decode cX12_readE 5 = .ok (.bipush 43, 2) := by decide +kernel
theorem dX12_readE_7 : decode cX12_readE 7 = .ok (.invokevirtual 55, 3) := by decide +kernel
theorem dX12_readE_10 : decode cX12_readE 10 = .ok (.ifCond .ne 12, 3) := by decide +kernel
theorem dX12_readE_13 : decode cX12_readE 13 = .ok (.aload_n 0, 1) := by decide +kernel
theorem dX12_readE_14 : decode cX12_readE 14 = .ok (.bipush 45, 2) := by decide +kernel
theorem dX12_readE_16 : decode cX12_readE 16 = .ok (.invokevirtual 55, 3) := by decide +kernel
theorem dX12_readE_19 : decode cX12_readE 19 = .ok (.ifCond .eq 24, 3) := by decide +kernel
theorem dX12_readE_22 : decode cX12_readE 22 = .ok (.aload_n 0, 1) := by decide +kernel
theorem dX12_readE_23 : decode cX12_readE 23 = .ok (.aload_n 0, 1) := by decide +kernel
theorem dX12_readE_24 : decode cX12_readE 24 = .ok (.getfield 45, 3) := by decide +kernel
theorem dX12_readE_27 : decode cX12_readE 27 = .ok (.aload_n 0, 1) := by decide +kernel
theorem dX12_readE_28 : decode cX12_readE 28 = .ok (.getfield 49, 3) := by decide +kernel
theorem dX12_readE_31 : decode cX12_readE 31 = .ok (.laload, 1) := by decide +kernel
theorem dX12_readE_32 : decode cX12_readE 32 = .ok (.l2i, 1) := by decide +kernel
theorem dX12_readE_33 : decode cX12_readE 33 = .ok (.invokevirtual 158, 3) := by decide +kernel
theorem dX12_readE_36 : decode cX12_readE 36 = .ok (.aload_n 0, 1) := by decide +kernel
theorem dX12_readE_37 : decode cX12_readE 37 = .ok (.invokevirtual 155, 3) := by decide +kernel
theorem dX12_readE_40 : decode cX12_readE 40 = .ok (.goto (-36), 3) := by decide +kernel
theorem dX12_readE_43 : decode cX12_readE 43 = .ok (.return_, 1) := by decide +kernel
theorem dX12_readProduct_0 : decode cX12_readProduct 0 = .ok (.aload_n 0, 1) := by decide +kernel
theorem dX12_readProduct_1 : decode cX12_readProduct 1 = .ok (.invokevirtual 161, 3) := by decide +kernel
theorem dX12_readProduct_4 : decode cX12_readProduct 4 = .ok (.aload_n 0, 1) := by decide +kernel
theorem dX12_readProduct_5 : decode cX12_readProduct 5 = .ok (.bipush 42, 2) := by decide +kernel
theorem dX12_readProduct_7 : decode cX12_readProduct 7 = .ok (.invokevirtual 55, 3) := by decide +kernel
theorem dX12_readProduct_10 : decode cX12_readProduct 10 = .ok (.ifCond .ne 12, 3) := by decide +kernel
theorem dX12_readProduct_13 : decode cX12_readProduct 13 = .ok (.aload_n 0, 1) := by decide +kernel
theorem dX12_readProduct_14 : decode cX12_readProduct 14 = .ok (.bipush 47, 2) := by decide +kernel
theorem dX12_readProduct_16 : decode cX12_readProduct 16 = .ok (.invokevirtual 55, 3) := by decide +kernel
theorem dX12_readProduct_19 : decode cX12_readProduct 19 = .ok (.ifCond .eq 24, 3) := by decide +kernel
theorem dX12_readProduct_22 : decode cX12_readProduct 22 = .ok (.aload_n 0, 1) := by decide +kernel
theorem dX12_readProduct_23 : decode cX12_readProduct 23 = .ok (.aload_n 0, 1) := by decide +kernel
theorem dX12_readProduct_24 : decode cX12_readProduct 24 = .ok (.getfield 45, 3) := by decide +kernel
theorem dX12_readProduct_27 : decode cX12_readProduct 27 = .ok (.aload_n 0, 1) := by decide +kernel
theorem dX12_readProduct_28 : decode cX12_readProduct 28 = .ok (.getfield 49, 3) := by decide +kernel
theorem dX12_readProduct_31 : decode cX12_readProduct 31 = .ok (.laload, 1) := by decide +kernel
theorem dX12_readProduct_32 : decode cX12_readProduct 32 = .ok (.l2i, 1) := by decide +kernel
theorem dX12_readProduct_33 : decode cX12_readProduct 33 = .ok (.invokevirtual 158, 3) := by decide +kernel
theorem dX12_readProduct_36 : decode cX12_readProduct 36 = .ok (.aload_n 0, 1) := by decide +kernel
theorem dX12_readProduct_37 : decode cX12_readProduct 37 = .ok (.invokevirtual 161, 3) := by decide +kernel
theorem dX12_readProduct_40 : decode cX12_readProduct 40 = .ok (.goto (-36), 3) := by decide +kernel
theorem dX12_readProduct_43 : decode cX12_readProduct 43 = .ok (.return_, 1) := by decide +kernel
theorem dX12_isPart_0 : decode cX12_isPart 0 = .ok (.aload_n 0, 1) := by decide +kernel
theorem dX12_isPart_1 : decode cX12_isPart 1 = .ok (.getfield 52, 3) := by decide +kernel
theorem dX12_isPart_4 : decode cX12_isPart 4 = .ok (.ifCond .ne 61, 3) := by decide +kernel
theorem dX12_isPart_7 : decode cX12_isPart 7 = .ok (.aload_n 0, 1) := by decide +kernel
theorem dX12_isPart_8 : decode cX12_isPart 8 = .ok (.getfield 32, 3) := by decide +kernel
theorem dX12_isPart_11 : decode cX12_isPart 11 = .ok (.aload_n 0, 1) := by decide +kernel
theorem dX12_isPart_12 : decode cX12_isPart 12 = .ok (.getfield 49, 3) := by decide +kernel
theorem dX12_isPart_15 : decode cX12_isPart 15 = .ok (.iaload, 1) := by decide +kernel
theorem dX12_isPart_16 : decode cX12_isPart 16 = .ok (.iconst 2, 1) := by decide +kernel
theorem dX12_isPart_17 : decode cX12_isPart 17 = .ok (.if_icmp .eq 44, 3) := by decide +kernel
theorem dX12_isPart_20 : decode cX12_isPart 20 = .ok (.aload_n 0, 1) := by decide +kernel
theorem dX12_isPart_21 : decode cX12_isPart 21 = .ok (.invokevirtual 164, 3) := by decide +kernel
theorem dX12_isPart_24 : decode cX12_isPart 24 = .ok (.ifCond .ne 37, 3) := by decide +kernel
theorem dX12_isPart_27 : decode cX12_isPart 27 = .ok (.aload_n 0, 1) := by decide +kernel
theorem dX12_isPart_28 : decode cX12_isPart 28 = .ok (.invokevirtual 168, 3) := by decide +kernel
theorem dX12_isPart_31 : decode cX12_isPart 31 = .ok (.ifCond .ne 30, 3) := by decide +kernel
theorem dX12_isPart_34 : decode cX12_isPart 34 = .ok (.aload_n 0, 1) := by decide +kernel
theorem dX12_isPart_35 : decode cX12_isPart 35 = .ok (.bipush 36, 2) := by decide +kernel
theorem dX12_isPart_37 : decode cX12_isPart 37 = .ok (.invokevirtual 55, 3) := by decide +kernel
theorem dX12_isPart_40 : decode cX12_isPart 40 = .ok (.ifCond .ne 21, 3) := by decide +kernel
theorem dX12_isPart_43 : decode cX12_isPart 43 = .ok (.aload_n 0, 1) := by decide +kernel
theorem dX12_isPart_44 : decode cX12_isPart 44 = .ok (.bipush 40, 2) := by decide +kernel
theorem dX12_isPart_46 : decode cX12_isPart 46 = .ok (.invokevirtual 55, 3) := by decide +kernel
theorem dX12_isPart_49 : decode cX12_isPart 49 = .ok (.ifCond .ne 12, 3) := by decide +kernel
theorem dX12_isPart_52 : decode cX12_isPart 52 = .ok (.aload_n 0, 1) := by decide +kernel
theorem dX12_isPart_53 : decode cX12_isPart 53 = .ok (.bipush 45, 2) := by decide +kernel
theorem dX12_isPart_55 : decode cX12_isPart 55 = .ok (.invokevirtual 55, 3) := by decide +kernel
theorem dX12_isPart_58 : decode cX12_isPart 58 = .ok (.ifCond .eq 7, 3) := by decide +kernel
theorem dX12_isPart_61 : decode cX12_isPart 61 = .ok (.iconst 1, 1) := by decide +kernel
theorem dX12_isPart_62 : decode cX12_isPart 62 = .ok (.goto 4, 3) := by decide +kernel
theorem dX12_isPart_65 : decode cX12_isPart 65 = .ok (.iconst 0, 1) := by decide +kernel
theorem dX12_isPart_66 : decode cX12_isPart 66 = .ok (.ireturn, 1) := by decide +kernel
theorem dX12_readPart_0 : decode cX12_readPart 0 = .ok (.aload_n 0, 1) := by decide +kernel
theorem dX12_readPart_1 : decode cX12_readPart 1 = .ok (.invokevirtual 171, 3) := by decide +kernel
theorem dX12_readPart_4 : decode cX12_readPart 4 = .ok (.ifCond .ne 11, 3) := by decide +kernel
theorem dX12_readPart_7 : decode cX12_readPart 7 = .ok (.aload_n 0, 1) := by decide +kernel
theorem dX12_readPart_8 : decode cX12_readPart 8 = .ok (.iconst 1, 1) := by decide +kernel
theorem dX12_readPart_9 : decode cX12_readPart 9 = .ok (.invokevirtual 147, 3) := by decide +kernel
theorem dX12_readPart_12 : decode cX12_readPart 12 = .ok (.goto 17, 3) := by decide +kernel
theorem dX12_readPart_15 : decode cX12_readPart 15 = .ok (.aload_n 0, 1) := by decide +kernel
theorem dX12_readPart_16 : decode cX12_readPart 16 = .ok (.getfield 174, 3) := by decide +kernel
theorem dX12_readPart_19 : decode cX12_readPart 19 = .ok (.bipush 8, 2) := by decide +kernel
theorem dX12_readPart_21 : decode cX12_readPart 21 = .ok (.if_icmp .ne 8, 3) := by decide +kernel
theorem dX12_readPart_24 : decode cX12_readPart 24 = .ok (.aload_n 0, 1) := by decide +kernel
theorem dX12_readPart_25 : decode cX12_readPart 25 = .ok (.iconst 5, 1) := by decide +kernel
theorem dX12_readPart_26 : decode cX12_readPart 26 = .ok (.invokevirtual 147, 3) := by decide +kernel
theorem dX12_readPart_29 : decode cX12_readPart 29 = .ok (.aload_n 0, 1) := by decide +kernel
theorem dX12_readPart_30 : decode cX12_readPart 30 = .ok (.getfield 52, 3) := by decide +kernel
theorem dX12_readPart_33 : decode cX12_readPart 33 = .ok (.ifCond .le 4, 3) := by decide +kernel
theorem dX12_readPart_36 : decode cX12_readPart 36 = .ok (.return_, 1) := by decide +kernel
theorem dX12_readPart_37 : decode cX12_readPart 37 = .ok (.aload_n 0, 1) := by decide +kernel
theorem dX12_readPart_38 : decode cX12_readPart 38 = .ok (.dup, 1) := by decide +kernel
theorem dX12_readPart_39 : decode cX12_readPart 39 = .ok (.getfield 174, 3) := by decide +kernel
theorem dX12_readPart_42 : decode cX12_readPart 42 = .ok (.iconst 1, 1) := by decide +kernel
theorem dX12_readPart_43 : decode cX12_readPart 43 = .ok (.iadd, 1) := by decide +kernel
theorem dX12_readPart_44 : decode cX12_readPart 44 = .ok (.putfield 174, 3) := by decide +kernel
theorem dX12_readPart_47 : decode cX12_readPart 47 = .ok (.aload_n 0, 1) := by decide +kernel
theorem dX12_readPart_48 : decode cX12_readPart 48 = .ok (.getfield 32, 3) := by decide +kernel
theorem dX12_readPart_51 : decode cX12_readPart 51 = .ok (.aload_n 0, 1) := by decide +kernel
theorem dX12_readPart_52 : decode cX12_readPart 52 = .ok (.getfield 49, 3) := by decide +kernel
theorem dX12_readPart_55 : decode cX12_readPart 55 = .ok (.iaload, 1) := by decide +kernel
theorem dX12_readPart_56 : decode cX12_readPart 56 = .ok (.iconst 2, 1) := by decide +kernel
theorem dX12_readPart_57 : decode cX12_readPart 57 = .ok (.if_icmp .ne 33, 3) := by decide +kernel
theorem dX12_readPart_60 : decode cX12_readPart 60 = .ok (.aload_n 0, 1) := by decide +kernel
theorem dX12_readPart_61 : decode cX12_readPart 61 = .ok (.iconst 0, 1) := by decide +kernel
theorem dX12_readPart_62 : decode cX12_readPart 62 = .ok (.aload_n 0, 1) := by decide +kernel
theorem dX12_readPart_63 : decode cX12_readPart 63 = .ok (.getfield 45, 3) := by decide +kernel
theorem dX12_readPart_66 : decode cX12_readPart 66 = .ok (.aload_n 0, 1) := by decide +kernel
theorem dX12_readPart_67 : decode cX12_readPart 67 = .ok (.getfield 49, 3) := by decide +kernel
theorem dX12_readPart_70 : decode cX12_readPart 70 = .ok (.laload, 1) := by decide +kernel
theorem dX12_readPart_71 : decode cX12_readPart 71 = .ok (.l2i, 1) := by decide +kernel
theorem dX12_readPart_72 : decode cX12_readPart 72 = .ok (.iconst 0, 1) := by decide +kernel
theorem dX12_readPart_73 : decode cX12_readPart 73 = .ok (.iconst 0, 1) := by decide +kernel
theorem dX12_readPart_74 : decode cX12_readPart 74 = .ok (.invokevirtual 143, 3) := by decide +kernel
theorem dX12_readPart_77 : decode cX12_readPart 77 = .ok (.aload_n 0, 1) := by decide +kernel
theorem dX12_readPart_78 : decode cX12_readPart 78 = .ok (.dup, 1) := by decide +kernel
theorem dX12_readPart_79 : decode cX12_readPart 79 = .ok (.getfield 49, 3) := by decide +kernel
theorem dX12_readPart_82 : decode cX12_readPart 82 = .ok (.iconst 1, 1) := by decide +kernel
theorem dX12_readPart_83 : decode cX12_readPart 83 = .ok (.iadd, 1) := by decide +kernel
theorem dX12_readPart_84 : decode cX12_readPart 84 = .ok (.putfield 49, 3) := by decide +kernel
theorem dX12_readPart_87 : decode cX12_readPart 87 = .ok (.goto 126, 3) := by decide +kernel
theorem dX12_readPart_90 : decode cX12_readPart 90 = .ok (.aload_n 0, 1) := by decide +kernel
theorem dX12_readPart_91 : decode cX12_readPart 91 = .ok (.invokevirtual 168, 3) := by decide +kernel
theorem dX12_readPart_94 : decode cX12_readPart 94 = .ok (.ifCond .eq 64, 3) := by decide +kernel
theorem dX12_readPart_97 : decode cX12_readPart 97 = .ok (.aload_n 0, 1) := by decide +kernel
theorem dX12_readPart_98 : decode cX12_readPart 98 = .ok (.dup, 1) := by decide +kernel
theorem dX12_readPart_99 : decode cX12_readPart 99 = .ok (.getfield 49, 3) := by decide +kernel
theorem dX12_readPart_102 : decode cX12_readPart 102 = .ok (.iconst 1, 1) := by decide +kernel
theorem dX12_readPart_103 : decode cX12_readPart 103 = .ok (.iadd, 1) := by decide +kernel
theorem dX12_readPart_104 : decode cX12_readPart 104 = .ok (.putfield 49, 3) := by decide +kernel
theorem dX12_readPart_107 : decode cX12_readPart 107 = .ok (.aload_n 0, 1) := by decide +kernel
theorem dX12_readPart_108 : decode cX12_readPart 108 = .ok (.iconst 2, 1) := by decide +kernel
theorem dX12_readPart_109 : decode cX12_readPart 109 = .ok (.iconst 0, 1) := by decide +kernel
theorem dX12_readPart_110 : decode cX12_readPart 110 = .ok (.iconst 0, 1) := by decide +kernel
theorem dX12_readPart_111 : decode cX12_readPart 111 = .ok (.iconst 0, 1) := by decide +kernel
theorem dX12_readPart_112 : decode cX12_readPart 112 = .ok (.invokevirtual 143, 3) := by decide +kernel
theorem dX12_readPart_115 : decode cX12_readPart 115 = .ok (.aload_n 0, 1) := by decide +kernel
theorem dX12_readPart_116 : decode cX12_readPart 116 = .ok (.bipush 40, 2) := by decide +kernel
theorem dX12_readPart_118 : decode cX12_readPart 118 = .ok (.invokevirtual 158, 3) := by decide +kernel
theorem dX12_readPart_121 : decode cX12_readPart 121 = .ok (.ldc 142, 2) := by decide +kernel
theorem dX12_readPart_123 : decode cX12_readPart 123 = .ok (.aload_n 0, 1) := by decide +kernel
theorem dX12_readPart_124 : decode cX12_readPart 124 = .ok (.getfield 77, 3) := by decide +kernel
theorem dX12_readPart_127 : decode cX12_readPart 127 = .ok (.sipush 288, 3) := by decide +kernel
theorem dX12_readPart_130 : decode cX12_readPart 130 = .ok (.iaload, 1) := by decide +kernel
theorem dX12_readPart_131 : decode cX12_readPart 131 = .ok (.iadd, 1) := by decide +kernel
theorem dX12_readPart_132 : decode cX12_readPart 132 = .ok (.istore_n 1, 1) := by decide +kernel
theorem dX12_readPart_133 : decode cX12_readPart 133 = .ok (.aload_n 0, 1) := by decide +kernel
theorem dX12_readPart_134 : decode cX12_readPart 134 = .ok (.iconst (-1), 1) := by decide +kernel
theorem dX12_readPart_135 : decode cX12_readPart 135 = .ok (.invokevirtual 177, 3) := by decide +kernel
theorem dX12_readPart_138 : decode cX12_readPart 138 = .ok (.aload_n 0, 1) := by decide +kernel
theorem dX12_readPart_139 : decode cX12_readPart 139 = .ok (.bipush 58, 2) := by decide +kernel
theorem dX12_readPart_141 : decode cX12_readPart 141 = .ok (.invokevirtual 158, 3) := by decide +kernel
theorem dX12_readPart_144 : decode cX12_readPart 144 = .ok (.aload_n 0, 1) := by decide +kernel
theorem dX12_readPart_145 : decode cX12_readPart 145 = .ok (.iload_n 1, 1) := by decide +kernel
theorem dX12_readPart_146 : decode cX12_readPart 146 = .ok (.invokevirtual 177, 3) := by decide +kernel
theorem dX12_readPart_149 : decode cX12_readPart 149 = .ok (.aload_n 0, 1) := by decide +kernel
theorem dX12_readPart_150 : decode cX12_readPart 150 = .ok (.bipush 41, 2) := by decide +kernel
theorem dX12_readPart_152 : decode cX12_readPart 152 = .ok (.invokevirtual 158, 3) := by decide +kernel
theorem dX12_readPart_155 : decode cX12_readPart 155 = .ok (.goto 58, 3) := by decide +kernel
theorem dX12_readPart_158 : decode cX12_readPart 158 = .ok (.aload_n 0, 1) := by decide +kernel
theorem dX12_readPart_159 : decode cX12_readPart 159 = .ok (.bipush 40, 2) := by decide +kernel
theorem dX12_readPart_161 : decode cX12_readPart 161 = .ok (.invokevirtual 55, 3) := by decide +kernel
theorem dX12_readPart_164 : decode cX12_readPart 164 = .ok (.ifCond .eq 22, 3) := by decide +kernel
theorem dX12_readPart_167 : decode cX12_readPart 167 = .ok (.aload_n 0, 1) := by decide +kernel
theorem dX12_readPart_168 : decode cX12_readPart 168 = .ok (.bipush 40, 2) := by decide +kernel
theorem dX12_readPart_170 : decode cX12_readPart 170 = .ok (.invokevirtual 158, 3) := by decide +kernel
theorem dX12_readPart_173 : decode cX12_readPart 173 = .ok (.aload_n 0, 1) := by decide +kernel
theorem dX12_readPart_174 : decode cX12_readPart 174 = .ok (.invokevirtual 180, 3) := by decide +kernel
theorem dX12_readPart_177 : decode cX12_readPart 177 = .ok (.aload_n 0, 1) := by decide +kernel
theorem dX12_readPart_178 : decode cX12_readPart 178 = .ok (.bipush 41, 2) := by decide +kernel
theorem dX12_readPart_180 : decode cX12_readPart 180 = .ok (.invokevirtual 158, 3) := by decide +kernel
theorem dX12_readPart_183 : decode cX12_readPart 183 = .ok (.goto 30, 3) := by decide +kernel
theorem dX12_readPart_186 : decode cX12_readPart 186 = .ok (.aload_n 0, 1) := by decide +kernel
theorem dX12_readPart_187 : decode cX12_readPart 187 = .ok (.bipush 45, 2) := by decide +kernel
theorem dX12_readPart_189 : decode cX12_readPart 189 = .ok (.invokevirtual 55, 3) := by decide +kernel
theorem dX12_readPart_192 : decode cX12_readPart 192 = .ok (.ifCond .eq 16, 3) := by decide +kernel
theorem dX12_readPart_195 : decode cX12_readPart 195 = .ok (.aload_n 0, 1) := by decide +kernel
theorem dX12_readPart_196 : decode cX12_readPart 196 = .ok (.bipush 45, 2) := by decide +kernel
theorem dX12_readPart_198 : decode cX12_readPart 198 = .ok (.invokevirtual 158, 3) := by decide +kernel
theorem dX12_readPart_201 : decode cX12_readPart 201 = .ok (.aload_n 0, 1) := by decide +kernel
theorem dX12_readPart_202 : decode cX12_readPart 202 = .ok (.invokevirtual 161, 3) := by decide +kernel
theorem dX12_readPart_205 : decode cX12_readPart 205 = .ok (.goto 8, 3) := by decide +kernel
theorem dX12_readPart_208 : decode cX12_readPart 208 = .ok (.aload_n 0, 1) := by decide +kernel
theorem dX12_readPart_209 : decode cX12_readPart 209 = .ok (.iconst (-1), 1) := by decide +kernel
theorem dX12_readPart_210 : decode cX12_readPart 210 = .ok (.invokevirtual 177, 3) := by decide +kernel
theorem dX12_readPart_213 : decode cX12_readPart 213 = .ok (.aload_n 0, 1) := by decide +kernel
theorem dX12_readPart_214 : decode cX12_readPart 214 = .ok (.dup, 1) := by decide +kernel
theorem dX12_readPart_215 : decode cX12_readPart 215 = .ok (.getfield 174, 3) := by decide +kernel
theorem dX12_readPart_218 : decode cX12_readPart 218 = .ok (.iconst 1, 1) := by decide +kernel
theorem dX12_readPart_219 : decode cX12_readPart 219 = .ok (.isub, 1) := by decide +kernel
theorem dX12_readPart_220 : decode cX12_readPart 220 = .ok (.putfield 174, 3) := by decide +kernel
theorem dX12_readPart_223 : decode cX12_readPart 223 = .ok (.return_, 1) := by decide +kernel
theorem dX12_copyRow_0 : decode cX12_copyRow 0 = .ok (.aload_n 0, 1) := by decide +kernel
theorem dX12_copyRow_1 : decode cX12_copyRow 1 = .ok (.getfield 80, 3) := by decide +kernel
theorem dX12_copyRow_4 : decode cX12_copyRow 4 = .ok (.iload_n 2, 1) := by decide +kernel
theorem dX12_copyRow_5 : decode cX12_copyRow 5 = .ok (.aload_n 0, 1) := by decide +kernel
theorem dX12_copyRow_6 : decode cX12_copyRow 6 = .ok (.getfield 80, 3) := by decide +kernel
theorem dX12_copyRow_9 : decode cX12_copyRow 9 = .ok (.iload_n 1, 1) := by decide +kernel
theorem dX12_copyRow_10 : decode cX12_copyRow 10 = .ok (.iaload, 1) := by decide +kernel
theorem dX12_copyRow_11 : decode cX12_copyRow 11 = .ok (.iastore, 1) := by decide +kernel
theorem dX12_copyRow_12 : decode cX12_copyRow 12 = .ok (.aload_n 0, 1) := by decide +kernel
theorem dX12_copyRow_13 : decode cX12_copyRow 13 = .ok (.getfield 83, 3) := by decide +kernel
theorem dX12_copyRow_16 : decode cX12_copyRow 16 = .ok (.iload_n 2, 1) := by decide +kernel
theorem dX12_copyRow_17 : decode cX12_copyRow 17 = .ok (.aload_n 0, 1) := by decide +kernel
theorem dX12_copyRow_18 : decode cX12_copyRow 18 = .ok (.getfield 83, 3) := by decide +kernel
theorem dX12_copyRow_21 : decode cX12_copyRow 21 = .ok (.iload_n 1, 1) := by decide +kernel
theorem dX12_copyRow_22 : decode cX12_copyRow 22 = .ok (.iaload, 1) := by decide +kernel
theorem dX12_copyRow_23 : decode cX12_copyRow 23 = .ok (.iastore, 1) := by decide +kernel
theorem dX12_copyRow_24 : decode cX12_copyRow 24 = .ok (.aload_n 0, 1) := by decide +kernel
theorem dX12_copyRow_25 : decode cX12_copyRow 25 = .ok (.getfield 77, 3) := by decide +kernel
theorem dX12_copyRow_28 : decode cX12_copyRow 28 = .ok (.iload_n 2, 1) := by decide +kernel
theorem dX12_copyRow_29 : decode cX12_copyRow 29 = .ok (.aload_n 0, 1) := by decide +kernel
theorem dX12_copyRow_30 : decode cX12_copyRow 30 = .ok (.getfield 77, 3) := by decide +kernel
theorem dX12_copyRow_33 : decode cX12_copyRow 33 = .ok (.iload_n 1, 1) := by decide +kernel
theorem dX12_copyRow_34 : decode cX12_copyRow 34 = .ok (.iaload, 1) := by decide +kernel
theorem dX12_copyRow_35 : decode cX12_copyRow 35 = .ok (.iastore, 1) := by decide +kernel
theorem dX12_copyRow_36 : decode cX12_copyRow 36 = .ok (.iconst 0, 1) := by decide +kernel
theorem dX12_copyRow_37 : decode cX12_copyRow 37 = .ok (.istore_n 3, 1) := by decide +kernel
theorem dX12_copyRow_38 : decode cX12_copyRow 38 = .ok (.iload_n 3, 1) := by decide +kernel
theorem dX12_copyRow_39 : decode cX12_copyRow 39 = .ok (.iconst 3, 1) := by decide +kernel
theorem dX12_copyRow_40 : decode cX12_copyRow 40 = .ok (.if_icmp .ge 29, 3) := by decide +kernel
theorem dX12_copyRow_43 : decode cX12_copyRow 43 = .ok (.aload_n 0, 1) := by decide +kernel
theorem dX12_copyRow_44 : decode cX12_copyRow 44 = .ok (.getfield 86, 3) := by decide +kernel
theorem dX12_copyRow_47 : decode cX12_copyRow 47 = .ok (.iconst 3, 1) := by decide +kernel
theorem dX12_copyRow_48 : decode cX12_copyRow 48 = .ok (.iload_n 2, 1) := by decide +kernel
theorem dX12_copyRow_49 : decode cX12_copyRow 49 = .ok (.imul, 1) := by decide +kernel
theorem dX12_copyRow_50 : decode cX12_copyRow 50 = .ok (.iload_n 3, 1) := by decide +kernel
theorem dX12_copyRow_51 : decode cX12_copyRow 51 = .ok (.iadd, 1) := by decide +kernel
theorem dX12_copyRow_52 : decode cX12_copyRow 52 = .ok (.aload_n 0, 1) := by decide +kernel
theorem dX12_copyRow_53 : decode cX12_copyRow 53 = .ok (.getfield 86, 3) := by decide +kernel
theorem dX12_copyRow_56 : decode cX12_copyRow 56 = .ok (.iconst 3, 1) := by decide +kernel
theorem dX12_copyRow_57 : decode cX12_copyRow 57 = .ok (.iload_n 1, 1) := by decide +kernel
theorem dX12_copyRow_58 : decode cX12_copyRow 58 = .ok (.imul, 1) := by decide +kernel
theorem dX12_copyRow_59 : decode cX12_copyRow 59 = .ok (.iload_n 3, 1) := by decide +kernel
theorem dX12_copyRow_60 : decode cX12_copyRow 60 = .ok (.iadd, 1) := by decide +kernel
theorem dX12_copyRow_61 : decode cX12_copyRow 61 = .ok (.iaload, 1) := by decide +kernel
theorem dX12_copyRow_62 : decode cX12_copyRow 62 = .ok (.iastore, 1) := by decide +kernel
theorem dX12_copyRow_63 : decode cX12_copyRow 63 = .ok (.iinc 3 1, 3) := by decide +kernel
theorem dX12_copyRow_66 : decode cX12_copyRow 66 = .ok (.goto (-28), 3) := by decide +kernel
theorem dX12_copyRow_69 : decode cX12_copyRow 69 = .ok (.iconst 0, 1) := by decide +kernel
theorem dX12_copyRow_70 : decode cX12_copyRow 70 = .ok (.istore_n 3, 1) := by decide +kernel
theorem dX12_copyRow_71 : decode cX12_copyRow 71 = .ok (.iload_n 3, 1) := by decide +kernel
theorem dX12_copyRow_72 : decode cX12_copyRow 72 = .ok (.aload_n 0, 1) := by decide +kernel
theorem dX12_copyRow_73 : decode cX12_copyRow 73 = .ok (.getfield 77, 3) := by decide +kernel
theorem dX12_copyRow_76 : decode cX12_copyRow 76 = .ok (.iload_n 1, 1) := by decide +kernel
theorem dX12_copyRow_77 : decode cX12_copyRow 77 = .ok (.iaload, 1) := by decide +kernel
theorem dX12_copyRow_78 : decode cX12_copyRow 78 = .ok (.if_icmp .ge 97, 3) := by decide +kernel
theorem dX12_copyRow_81 : decode cX12_copyRow 81 = .ok (.aload_n 0, 1) := by decide +kernel
theorem dX12_copyRow_82 : decode cX12_copyRow 82 = .ok (.getfield 65, 3) := by decide +kernel
theorem dX12_copyRow_85 : decode cX12_copyRow 85 = .ok (.bipush 120, 2) := by decide +kernel
theorem dX12_copyRow_87 : decode cX12_copyRow 87 = .ok (.iload_n 2, 1) := by decide +kernel
theorem dX12_copyRow_88 : decode cX12_copyRow 88 = .ok (.imul, 1) := by decide +kernel
theorem dX12_copyRow_89 : decode cX12_copyRow 89 = .ok (.iload_n 3, 1) := by decide +kernel
theorem dX12_copyRow_90 : decode cX12_copyRow 90 = .ok (.iadd, 1) := by decide +kernel
theorem dX12_copyRow_91 : decode cX12_copyRow 91 = .ok (.aload_n 0, 1) := by decide +kernel
theorem dX12_copyRow_92 : decode cX12_copyRow 92 = .ok (.getfield 65, 3) := by decide +kernel
theorem dX12_copyRow_95 : decode cX12_copyRow 95 = .ok (.bipush 120, 2) := by decide +kernel
theorem dX12_copyRow_97 : decode cX12_copyRow 97 = .ok (.iload_n 1, 1) := by decide +kernel
theorem dX12_copyRow_98 : decode cX12_copyRow 98 = .ok (.imul, 1) := by decide +kernel
theorem dX12_copyRow_99 : decode cX12_copyRow 99 = .ok (.iload_n 3, 1) := by decide +kernel
theorem dX12_copyRow_100 : decode cX12_copyRow 100 = .ok (.iadd, 1) := by decide +kernel
theorem dX12_copyRow_101 : decode cX12_copyRow 101 = .ok (.iaload, 1) := by decide +kernel
theorem dX12_copyRow_102 : decode cX12_copyRow 102 = .ok (.iastore, 1) := by decide +kernel
theorem dX12_copyRow_103 : decode cX12_copyRow 103 = .ok (.aload_n 0, 1) := by decide +kernel
theorem dX12_copyRow_104 : decode cX12_copyRow 104 = .ok (.getfield 68, 3) := by decide +kernel
theorem dX12_copyRow_107 : decode cX12_copyRow 107 = .ok (.bipush 120, 2) := by decide +kernel
theorem dX12_copyRow_109 : decode cX12_copyRow 109 = .ok (.iload_n 2, 1) := by decide +kernel
theorem dX12_copyRow_110 : decode cX12_copyRow 110 = .ok (.imul, 1) := by decide +kernel
theorem dX12_copyRow_111 : decode cX12_copyRow 111 = .ok (.iload_n 3, 1) := by decide +kernel
theorem dX12_copyRow_112 : decode cX12_copyRow 112 = .ok (.iadd, 1) := by decide +kernel
theorem dX12_copyRow_113 : decode cX12_copyRow 113 = .ok (.aload_n 0, 1) := by decide +kernel
theorem dX12_copyRow_114 : decode cX12_copyRow 114 = .ok (.getfield 68, 3) := by decide +kernel
theorem dX12_copyRow_117 : decode cX12_copyRow 117 = .ok (.bipush 120, 2) := by decide +kernel
theorem dX12_copyRow_119 : decode cX12_copyRow 119 = .ok (.iload_n 1, 1) := by decide +kernel
theorem dX12_copyRow_120 : decode cX12_copyRow 120 = .ok (.imul, 1) := by decide +kernel
theorem dX12_copyRow_121 : decode cX12_copyRow 121 = .ok (.iload_n 3, 1) := by decide +kernel
theorem dX12_copyRow_122 : decode cX12_copyRow 122 = .ok (.iadd, 1) := by decide +kernel
theorem dX12_copyRow_123 : decode cX12_copyRow 123 = .ok (.iaload, 1) := by decide +kernel
theorem dX12_copyRow_124 : decode cX12_copyRow 124 = .ok (.iastore, 1) := by decide +kernel
theorem dX12_copyRow_125 : decode cX12_copyRow 125 = .ok (.aload_n 0, 1) := by decide +kernel
theorem dX12_copyRow_126 : decode cX12_copyRow 126 = .ok (.getfield 71, 3) := by decide +kernel
theorem dX12_copyRow_129 : decode cX12_copyRow 129 = .ok (.bipush 120, 2) := by decide +kernel
theorem dX12_copyRow_131 : decode cX12_copyRow 131 = .ok (.iload_n 2, 1) := by decide +kernel
theorem dX12_copyRow_132 : decode cX12_copyRow 132 = .ok (.imul, 1) := by decide +kernel
theorem dX12_copyRow_133 : decode cX12_copyRow 133 = .ok (.iload_n 3, 1) := by decide +kernel
theorem dX12_copyRow_134 : decode cX12_copyRow 134 = .ok (.iadd, 1) := by decide +kernel
theorem dX12_copyRow_135 : decode cX12_copyRow 135 = .ok (.aload_n 0, 1) := by decide +kernel
theorem dX12_copyRow_136 : decode cX12_copyRow 136 = .ok (.getfield 71, 3) := by decide +kernel
theorem dX12_copyRow_139 : decode cX12_copyRow 139 = .ok (.bipush 120, 2) := by decide +kernel
theorem dX12_copyRow_141 : decode cX12_copyRow 141 = .ok (.iload_n 1, 1) := by decide +kernel
theorem dX12_copyRow_142 : decode cX12_copyRow 142 = .ok (.imul, 1) := by decide +kernel
theorem dX12_copyRow_143 : decode cX12_copyRow 143 = .ok (.iload_n 3, 1) := by decide +kernel
theorem dX12_copyRow_144 : decode cX12_copyRow 144 = .ok (.iadd, 1) := by decide +kernel
theorem dX12_copyRow_145 : decode cX12_copyRow 145 = .ok (.iaload, 1) := by decide +kernel
theorem dX12_copyRow_146 : decode cX12_copyRow 146 = .ok (.iastore, 1) := by decide +kernel
theorem dX12_copyRow_147 : decode cX12_copyRow 147 = .ok (.aload_n 0, 1) := by decide +kernel
theorem dX12_copyRow_148 : decode cX12_copyRow 148 = .ok (.getfield 74, 3) := by decide +kernel
theorem dX12_copyRow_151 : decode cX12_copyRow 151 = .ok (.bipush 120, 2) := by decide +kernel
theorem dX12_copyRow_153 : decode cX12_copyRow 153 = .ok (.iload_n 2, 1) := by decide +kernel
theorem dX12_copyRow_154 : decode cX12_copyRow 154 = .ok (.imul, 1) := by decide +kernel
theorem dX12_copyRow_155 : decode cX12_copyRow 155 = .ok (.iload_n 3, 1) := by decide +kernel
theorem dX12_copyRow_156 : decode cX12_copyRow 156 = .ok (.iadd, 1) := by decide +kernel
theorem dX12_copyRow_157 : decode cX12_copyRow 157 = .ok (.aload_n 0, 1) := by decide +kernel
theorem dX12_copyRow_158 : decode cX12_copyRow 158 = .ok (.getfield 74, 3) := by decide +kernel
theorem dX12_copyRow_161 : decode cX12_copyRow 161 = .ok (.bipush 120, 2) := by decide +kernel
theorem dX12_copyRow_163 : decode cX12_copyRow 163 = .ok (.iload_n 1, 1) := by decide +kernel
theorem dX12_copyRow_164 : decode cX12_copyRow 164 = .ok (.imul, 1) := by decide +kernel
theorem dX12_copyRow_165 : decode cX12_copyRow 165 = .ok (.iload_n 3, 1) := by decide +kernel
theorem dX12_copyRow_166 : decode cX12_copyRow 166 = .ok (.iadd, 1) := by decide +kernel
theorem dX12_copyRow_167 : decode cX12_copyRow 167 = .ok (.iaload, 1) := by decide +kernel
theorem dX12_copyRow_168 : decode cX12_copyRow 168 = .ok (.iastore, 1) := by decide +kernel
theorem dX12_copyRow_169 : decode cX12_copyRow 169 = .ok (.iinc 3 1, 3) := by decide +kernel
theorem dX12_copyRow_172 : decode cX12_copyRow 172 = .ok (.goto (-101), 3) := by decide +kernel
theorem dX12_copyRow_175 : decode cX12_copyRow 175 = .ok (.return_, 1) := by decide +kernel
theorem dX12_clearDraft_0 : decode cX12_clearDraft 0 = .ok (.aload_n 0, 1) := by decide +kernel
theorem dX12_clearDraft_1 : decode cX12_clearDraft 1 = .ok (.getfield 80, 3) := by decide +kernel
theorem dX12_clearDraft_4 : decode cX12_clearDraft 4 = .ok (.sipush 288, 3) := by decide +kernel
theorem dX12_clearDraft_7 : decode cX12_clearDraft 7 = .ok (.iload_n 1, 1) := by decide +kernel
theorem dX12_clearDraft_8 : decode cX12_clearDraft 8 = .ok (.iastore, 1) := by decide +kernel
theorem dX12_clearDraft_9 : decode cX12_clearDraft 9 = .ok (.aload_n 0, 1) := by decide +kernel
theorem dX12_clearDraft_10 : decode cX12_clearDraft 10 = .ok (.getfield 83, 3) := by decide +kernel
theorem dX12_clearDraft_13 : decode cX12_clearDraft 13 = .ok (.sipush 288, 3) := by decide +kernel
theorem dX12_clearDraft_16 : decode cX12_clearDraft 16 = .ok (.iload_n 2, 1) := by decide +kernel
theorem dX12_clearDraft_17 : decode cX12_clearDraft 17 = .ok (.iastore, 1) := by decide +kernel
theorem dX12_clearDraft_18 : decode cX12_clearDraft 18 = .ok (.aload_n 0, 1) := by decide +kernel
theorem dX12_clearDraft_19 : decode cX12_clearDraft 19 = .ok (.getfield 77, 3) := by decide +kernel
theorem dX12_clearDraft_22 : decode cX12_clearDraft 22 = .ok (.sipush 288, 3) := by decide +kernel
theorem dX12_clearDraft_25 : decode cX12_clearDraft 25 = .ok (.iconst 0, 1) := by decide +kernel
theorem dX12_clearDraft_26 : decode cX12_clearDraft 26 = .ok (.iastore, 1) := by decide +kernel
theorem dX12_clearDraft_27 : decode cX12_clearDraft 27 = .ok (.iconst 0, 1) := by decide +kernel
theorem dX12_clearDraft_28 : decode cX12_clearDraft 28 = .ok (.istore_n 3, 1) := by decide +kernel
theorem dX12_clearDraft_29 : decode cX12_clearDraft 29 = .ok (.iload_n 3, 1) := by decide +kernel
theorem dX12_clearDraft_30 : decode cX12_clearDraft 30 = .ok (.iconst 3, 1) := by decide +kernel
theorem dX12_clearDraft_31 : decode cX12_clearDraft 31 = .ok (.if_icmp .ge 20, 3) := by decide +kernel
theorem dX12_clearDraft_34 : decode cX12_clearDraft 34 = .ok (.aload_n 0, 1) := by decide +kernel
theorem dX12_clearDraft_35 : decode cX12_clearDraft 35 = .ok (.getfield 86, 3) := by decide +kernel
theorem dX12_clearDraft_38 : decode cX12_clearDraft 38 = .ok (.sipush 864, 3) := by decide +kernel
theorem dX12_clearDraft_41 : decode cX12_clearDraft 41 = .ok (.iload_n 3, 1) := by decide +kernel
theorem dX12_clearDraft_42 : decode cX12_clearDraft 42 = .ok (.iadd, 1) := by decide +kernel
theorem dX12_clearDraft_43 : decode cX12_clearDraft 43 = .ok (.iconst 0, 1) := by decide +kernel
theorem dX12_clearDraft_44 : decode cX12_clearDraft 44 = .ok (.iastore, 1) := by decide +kernel
theorem dX12_clearDraft_45 : decode cX12_clearDraft 45 = .ok (.iinc 3 1, 3) := by decide +kernel
theorem dX12_clearDraft_48 : decode cX12_clearDraft 48 = .ok (.goto (-19), 3) := by decide +kernel
theorem dX12_clearDraft_51 : decode cX12_clearDraft 51 = .ok (.return_, 1) := by decide +kernel
theorem dX12_puts_0 : decode cX12_puts 0 = .ok (.aload_n 0, 1) := by decide +kernel
theorem dX12_puts_1 : decode cX12_puts 1 = .ok (.getfield 188, 3) := by decide +kernel
theorem dX12_puts_4 : decode cX12_puts 4 = .ok (.bipush 20, 2) := by decide +kernel
theorem dX12_puts_6 : decode cX12_puts 6 = .ok (.if_icmp .ne 55, 3) := by decide +kernel
theorem dX12_puts_9 : decode cX12_puts 9 = .ok (.iconst 1, 1) := by decide +kernel
theorem dX12_puts_10 : decode cX12_puts 10 = .ok (.istore_n 2, 1) := by decide +kernel
theorem dX12_puts_11 : decode cX12_puts 11 = .ok (.iload_n 2, 1) := by decide +kernel
theorem dX12_puts_12 : decode cX12_puts 12 = .ok (.bipush 20, 2) := by decide +kernel
theorem dX12_puts_14 : decode cX12_puts 14 = .ok (.if_icmp .ge 37, 3) := by decide +kernel
theorem dX12_puts_17 : decode cX12_puts 17 = .ok (.aload_n 0, 1) := by decide +kernel
theorem dX12_puts_18 : decode cX12_puts 18 = .ok (.sipush 289, 3) := by decide +kernel
theorem dX12_puts_21 : decode cX12_puts 21 = .ok (.iload_n 2, 1) := by decide +kernel
theorem dX12_puts_22 : decode cX12_puts 22 = .ok (.iadd, 1) := by decide +kernel
theorem dX12_puts_23 : decode cX12_puts 23 = .ok (.sipush 288, 3) := by decide +kernel
theorem dX12_puts_26 : decode cX12_puts 26 = .ok (.iload_n 2, 1) := by decide +kernel
theorem dX12_puts_27 : decode cX12_puts 27 = .ok (.iadd, 1) := by decide +kernel
theorem dX12_puts_28 : decode cX12_puts 28 = .ok (.invokevirtual 191, 3) := by decide +kernel
theorem dX12_puts_31 : decode cX12_puts 31 = .ok (.aload_n 0, 1) := by decide +kernel
theorem dX12_puts_32 : decode cX12_puts 32 = .ok (.getfield 93, 3) := by decide +kernel
theorem dX12_puts_35 : decode cX12_puts 35 = .ok (.iload_n 2, 1) := by decide +kernel
theorem dX12_puts_36 : decode cX12_puts 36 = .ok (.iconst 1, 1) := by decide +kernel
theorem dX12_puts_37 : decode cX12_puts 37 = .ok (.isub, 1) := by decide +kernel
theorem dX12_puts_38 : decode cX12_puts 38 = .ok (.aload_n 0, 1) := by decide +kernel
theorem dX12_puts_39 : decode cX12_puts 39 = .ok (.getfield 93, 3) := by decide +kernel
theorem dX12_puts_42 : decode cX12_puts 42 = .ok (.iload_n 2, 1) := by decide +kernel
theorem dX12_puts_43 : decode cX12_puts 43 = .ok (.iaload, 1) := by decide +kernel
theorem dX12_puts_44 : decode cX12_puts 44 = .ok (.iastore, 1) := by decide +kernel
theorem dX12_puts_45 : decode cX12_puts 45 = .ok (.iinc 2 1, 3) := by decide +kernel
theorem dX12_puts_48 : decode cX12_puts 48 = .ok (.goto (-37), 3) := by decide +kernel
theorem dX12_puts_51 : decode cX12_puts 51 = .ok (.aload_n 0, 1) := by decide +kernel
theorem dX12_puts_52 : decode cX12_puts 52 = .ok (.dup, 1) := by decide +kernel
theorem dX12_puts_53 : decode cX12_puts 53 = .ok (.getfield 188, 3) := by decide +kernel
theorem dX12_puts_56 : decode cX12_puts 56 = .ok (.iconst 1, 1) := by decide +kernel
theorem dX12_puts_57 : decode cX12_puts 57 = .ok (.isub, 1) := by decide +kernel
theorem dX12_puts_58 : decode cX12_puts 58 = .ok (.putfield 188, 3) := by decide +kernel
theorem dX12_puts_61 : decode cX12_puts 61 = .ok (.aload_n 0, 1) := by decide +kernel
theorem dX12_puts_62 : decode cX12_puts 62 = .ok (.iload_n 1, 1) := by decide +kernel
theorem dX12_puts_63 : decode cX12_puts 63 = .ok (.sipush 289, 3) := by decide +kernel
theorem dX12_puts_66 : decode cX12_puts 66 = .ok (.aload_n 0, 1) := by decide +kernel
theorem dX12_puts_67 : decode cX12_puts 67 = .ok (.getfield 188, 3) := by decide +kernel
theorem dX12_puts_70 : decode cX12_puts 70 = .ok (.iadd, 1) := by decide +kernel
theorem dX12_puts_71 : decode cX12_puts 71 = .ok (.invokevirtual 191, 3) := by decide +kernel
theorem dX12_puts_74 : decode cX12_puts 74 = .ok (.aload_n 0, 1) := by decide +kernel
theorem dX12_puts_75 : decode cX12_puts 75 = .ok (.getfield 93, 3) := by decide +kernel
theorem dX12_puts_78 : decode cX12_puts 78 = .ok (.aload_n 0, 1) := by decide +kernel
theorem dX12_puts_79 : decode cX12_puts 79 = .ok (.getfield 188, 3) := by decide +kernel
theorem dX12_puts_82 : decode cX12_puts 82 = .ok (.iload_n 1, 1) := by decide +kernel
theorem dX12_puts_83 : decode cX12_puts 83 = .ok (.iastore, 1) := by decide +kernel
theorem dX12_puts_84 : decode cX12_puts 84 = .ok (.aload_n 0, 1) := by decide +kernel
theorem dX12_puts_85 : decode cX12_puts 85 = .ok (.dup, 1) := by decide +kernel
theorem dX12_puts_86 : decode cX12_puts 86 = .ok (.getfield 188, 3) := by decide +kernel
theorem dX12_puts_89 : decode cX12_puts 89 = .ok (.iconst 1, 1) := by decide +kernel
theorem dX12_puts_90 : decode cX12_puts 90 = .ok (.iadd, 1) := by decide +kernel
theorem dX12_puts_91 : decode cX12_puts 91 = .ok (.putfield 188, 3) := by decide +kernel
theorem dX12_puts_94 : decode cX12_puts 94 = .ok (.aload_n 0, 1) := by decide +kernel
theorem dX12_puts_95 : decode cX12_puts 95 = .ok (.sipush 288, 3) := by decide +kernel
theorem dX12_puts_98 : decode cX12_puts 98 = .ok (.iload_n 1, 1) := by decide +kernel
theorem dX12_puts_99 : decode cX12_puts 99 = .ok (.invokevirtual 191, 3) := by decide +kernel
theorem dX12_puts_102 : decode cX12_puts 102 = .ok (.aload_n 0, 1) := by decide +kernel
theorem dX12_puts_103 : decode cX12_puts 103 = .ok (.invokevirtual 195, 3) := by decide +kernel
theorem dX12_puts_106 : decode cX12_puts 106 = .ok (.return_, 1) := by decide +kernel
theorem dX12_isPlace_0 : decode cX12_isPlace 0 = .ok (.iload_n 0, 1) := by decide +kernel
theorem dX12_isPlace_1 : decode cX12_isPlace 1 = .ok (.ifCond .lt 14, 3) := by decide +kernel
theorem dX12_isPlace_4 : decode cX12_isPlace 4 = .ok (.iload_n 0, 1) := by decide +kernel
theorem dX12_isPlace_5 : decode cX12_isPlace 5 = .ok (.sipush 288, 3) := by decide +kernel
theorem dX12_isPlace_8 : decode cX12_isPlace 8 = .ok (.if_icmp .ge 7, 3) := by decide +kernel
theorem dX12_isPlace_11 : decode cX12_isPlace 11 = .ok (.iconst 1, 1) := by decide +kernel
theorem dX12_isPlace_12 : decode cX12_isPlace 12 = .ok (.goto 4, 3) := by decide +kernel
theorem dX12_isPlace_15 : decode cX12_isPlace 15 = .ok (.iconst 0, 1) := by decide +kernel
theorem dX12_isPlace_16 : decode cX12_isPlace 16 = .ok (.ireturn, 1) := by decide +kernel
theorem dX12_formula_0 : decode cX12_formula 0 = .ok (.aload_n 0, 1) := by decide +kernel
theorem dX12_formula_1 : decode cX12_formula 1 = .ok (.iconst 0, 1) := by decide +kernel
theorem dX12_formula_2 : decode cX12_formula 2 = .ok (.putfield 1, 3) := by decide +kernel
theorem dX12_formula_5 : decode cX12_formula 5 = .ok (.iload_n 1, 1) := by decide +kernel
theorem dX12_formula_6 : decode cX12_formula 6 = .ok (.invokestatic 198, 3) := by decide +kernel
theorem dX12_formula_9 : decode cX12_formula 9 = .ok (.ifCond .ne 10, 3) := by decide +kernel
theorem dX12_formula_12 : decode cX12_formula 12 = .ok (.aload_n 0, 1) := by decide +kernel
theorem dX12_formula_13 : decode cX12_formula 13 = .ok (.iconst 0, 1) := by decide +kernel
theorem dX12_formula_14 : decode cX12_formula 14 = .ok (.putfield 11, 3) := by decide +kernel
theorem dX12_formula_17 : decode cX12_formula 17 = .ok (.iconst (-1), 1) := by decide +kernel
theorem dX12_formula_18 : decode cX12_formula 18 = .ok (.ireturn, 1) := by decide +kernel
theorem dX12_formula_19 : decode cX12_formula 19 = .ok (.aload_n 0, 1) := by decide +kernel
theorem dX12_formula_20 : decode cX12_formula 20 = .ok (.invokevirtual 201, 3) := by decide +kernel
theorem dX12_formula_23 : decode cX12_formula 23 = .ok (.aload_n 0, 1) := by decide +kernel
theorem dX12_formula_24 : decode cX12_formula 24 = .ok (.iconst 2, 1) := by decide +kernel
theorem dX12_formula_25 : decode cX12_formula 25 = .ok (.iconst 0, 1) := by decide +kernel
theorem dX12_formula_26 : decode cX12_formula 26 = .ok (.invokevirtual 204, 3) := by decide +kernel
theorem dX12_formula_29 : decode cX12_formula 29 = .ok (.aload_n 0, 1) := by decide +kernel
theorem dX12_formula_30 : decode cX12_formula 30 = .ok (.iconst 0, 1) := by decide +kernel
theorem dX12_formula_31 : decode cX12_formula 31 = .ok (.putfield 174, 3) := by decide +kernel
theorem dX12_formula_34 : decode cX12_formula 34 = .ok (.aload_n 0, 1) := by decide +kernel
theorem dX12_formula_35 : decode cX12_formula 35 = .ok (.invokevirtual 180, 3) := by decide +kernel
theorem dX12_formula_38 : decode cX12_formula 38 = .ok (.aload_n 0, 1) := by decide +kernel
theorem dX12_formula_39 : decode cX12_formula 39 = .ok (.getfield 52, 3) := by decide +kernel
theorem dX12_formula_42 : decode cX12_formula 42 = .ok (.ifCond .ne 20, 3) := by decide +kernel
theorem dX12_formula_45 : decode cX12_formula 45 = .ok (.aload_n 0, 1) := by decide +kernel
theorem dX12_formula_46 : decode cX12_formula 46 = .ok (.getfield 32, 3) := by decide +kernel
theorem dX12_formula_49 : decode cX12_formula 49 = .ok (.aload_n 0, 1) := by decide +kernel
theorem dX12_formula_50 : decode cX12_formula 50 = .ok (.getfield 49, 3) := by decide +kernel
theorem dX12_formula_53 : decode cX12_formula 53 = .ok (.iaload, 1) := by decide +kernel
theorem dX12_formula_54 : decode cX12_formula 54 = .ok (.ifCond .eq 8, 3) := by decide +kernel
theorem dX12_formula_57 : decode cX12_formula 57 = .ok (.aload_n 0, 1) := by decide +kernel
theorem dX12_formula_58 : decode cX12_formula 58 = .ok (.iconst 1, 1) := by decide +kernel
theorem dX12_formula_59 : decode cX12_formula 59 = .ok (.invokevirtual 147, 3) := by decide +kernel
theorem dX12_formula_62 : decode cX12_formula 62 = .ok (.aload_n 0, 1) := by decide +kernel
theorem dX12_formula_63 : decode cX12_formula 63 = .ok (.getfield 52, 3) := by decide +kernel
theorem dX12_formula_66 : decode cX12_formula 66 = .ok (.ifCond .ne 8, 3) := by decide +kernel
theorem dX12_formula_69 : decode cX12_formula 69 = .ok (.aload_n 0, 1) := by decide +kernel
theorem dX12_formula_70 : decode cX12_formula 70 = .ok (.iload_n 1, 1) := by decide +kernel
theorem dX12_formula_71 : decode cX12_formula 71 = .ok (.invokevirtual 207, 3) := by decide +kernel
theorem dX12_formula_74 : decode cX12_formula 74 = .ok (.aload_n 0, 1) := by decide +kernel
theorem dX12_formula_75 : decode cX12_formula 75 = .ok (.getfield 52, 3) := by decide +kernel
theorem dX12_formula_78 : decode cX12_formula 78 = .ok (.ireturn, 1) := by decide +kernel
theorem dX12_number_0 : decode cX12_number 0 = .ok (.aload_n 0, 1) := by decide +kernel
theorem dX12_number_1 : decode cX12_number 1 = .ok (.iconst 0, 1) := by decide +kernel
theorem dX12_number_2 : decode cX12_number 2 = .ok (.putfield 1, 3) := by decide +kernel
theorem dX12_number_5 : decode cX12_number 5 = .ok (.iload_n 1, 1) := by decide +kernel
theorem dX12_number_6 : decode cX12_number 6 = .ok (.invokestatic 198, 3) := by decide +kernel
theorem dX12_number_9 : decode cX12_number 9 = .ok (.ifCond .ne 5, 3) := by decide +kernel
theorem dX12_number_12 : decode cX12_number 12 = .ok (.iconst 0, 1) := by decide +kernel
theorem dX12_number_13 : decode cX12_number 13 = .ok (.ireturn, 1) := by decide +kernel
theorem dX12_number_14 : decode cX12_number 14 = .ok (.aload_n 0, 1) := by decide +kernel
theorem dX12_number_15 : decode cX12_number 15 = .ok (.iconst 1, 1) := by decide +kernel
theorem dX12_number_16 : decode cX12_number 16 = .ok (.iload_n 2, 1) := by decide +kernel
theorem dX12_number_17 : decode cX12_number 17 = .ok (.invokevirtual 204, 3) := by decide +kernel
theorem dX12_number_20 : decode cX12_number 20 = .ok (.aload_n 0, 1) := by decide +kernel
theorem dX12_number_21 : decode cX12_number 21 = .ok (.iload_n 1, 1) := by decide +kernel
theorem dX12_number_22 : decode cX12_number 22 = .ok (.invokevirtual 207, 3) := by decide +kernel
theorem dX12_number_25 : decode cX12_number 25 = .ok (.iconst 1, 1) := by decide +kernel
theorem dX12_number_26 : decode cX12_number 26 = .ok (.ireturn, 1) := by decide +kernel
theorem dX12_empty_0 : decode cX12_empty 0 = .ok (.aload_n 0, 1) := by decide +kernel
theorem dX12_empty_1 : decode cX12_empty 1 = .ok (.iconst 0, 1) := by decide +kernel
theorem dX12_empty_2 : decode cX12_empty 2 = .ok (.putfield 1, 3) := by decide +kernel
theorem dX12_empty_5 : decode cX12_empty 5 = .ok (.iload_n 1, 1) := by decide +kernel
theorem dX12_empty_6 : decode cX12_empty 6 = .ok (.invokestatic 198, 3) := by decide +kernel
theorem dX12_empty_9 : decode cX12_empty 9 = .ok (.ifCond .ne 5, 3) := by decide +kernel
theorem dX12_empty_12 : decode cX12_empty 12 = .ok (.iconst 0, 1) := by decide +kernel
theorem dX12_empty_13 : decode cX12_empty 13 = .ok (.ireturn, 1) := by decide +kernel
theorem dX12_empty_14 : decode cX12_empty 14 = .ok (.aload_n 0, 1) := by decide +kernel
theorem dX12_empty_15 : decode cX12_empty 15 = .ok (.iconst 0, 1) := by decide +kernel
theorem dX12_empty_16 : decode cX12_empty 16 = .ok (.iconst 0, 1) := by decide +kernel
theorem dX12_empty_17 : decode cX12_empty 17 = .ok (.invokevirtual 204, 3) := by decide +kernel
theorem dX12_empty_20 : decode cX12_empty 20 = .ok (.aload_n 0, 1) := by decide +kernel
theorem dX12_empty_21 : decode cX12_empty 21 = .ok (.iload_n 1, 1) := by decide +kernel
theorem dX12_empty_22 : decode cX12_empty 22 = .ok (.invokevirtual 207, 3) := by decide +kernel
theorem dX12_empty_25 : decode cX12_empty 25 = .ok (.iconst 1, 1) := by decide +kernel
theorem dX12_empty_26 : decode cX12_empty 26 = .ok (.ireturn, 1) := by decide +kernel
theorem dX12_makesCopy_0 : decode cX12_makesCopy 0 = .ok (.aload_n 0, 1) := by decide +kernel
theorem dX12_makesCopy_1 : decode cX12_makesCopy 1 = .ok (.iload_n 1, 1) := by decide +kernel
theorem dX12_makesCopy_2 : decode cX12_makesCopy 2 = .ok (.sipush 288, 3) := by decide +kernel
theorem dX12_makesCopy_5 : decode cX12_makesCopy 5 = .ok (.invokevirtual 191, 3) := by decide +kernel
theorem dX12_makesCopy_8 : decode cX12_makesCopy 8 = .ok (.iconst 0, 1) := by decide +kernel
theorem dX12_makesCopy_9 : decode cX12_makesCopy 9 = .ok (.istore_n 3, 1) := by decide +kernel
theorem dX12_makesCopy_10 : decode cX12_makesCopy 10 = .ok (.iload_n 3, 1) := by decide +kernel
theorem dX12_makesCopy_11 : decode cX12_makesCopy 11 = .ok (.iconst 3, 1) := by decide +kernel
theorem dX12_makesCopy_12 : decode cX12_makesCopy 12 = .ok (.if_icmp .ge 20, 3) := by decide +kernel
theorem dX12_makesCopy_15 : decode cX12_makesCopy 15 = .ok (.aload_n 0, 1) := by decide +kernel
theorem dX12_makesCopy_16 : decode cX12_makesCopy 16 = .ok (.getfield 86, 3) := by decide +kernel
theorem dX12_makesCopy_19 : decode cX12_makesCopy 19 = .ok (.sipush 864, 3) := by decide +kernel
theorem dX12_makesCopy_22 : decode cX12_makesCopy 22 = .ok (.iload_n 3, 1) := by decide +kernel
theorem dX12_makesCopy_23 : decode cX12_makesCopy 23 = .ok (.iadd, 1) := by decide +kernel
theorem dX12_makesCopy_24 : decode cX12_makesCopy 24 = .ok (.iconst 0, 1) := by decide +kernel
theorem dX12_makesCopy_25 : decode cX12_makesCopy 25 = .ok (.iastore, 1) := by decide +kernel
theorem dX12_makesCopy_26 : decode cX12_makesCopy 26 = .ok (.iinc 3 1, 3) := by decide +kernel
theorem dX12_makesCopy_29 : decode cX12_makesCopy 29 = .ok (.goto (-19), 3) := by decide +kernel
theorem dX12_makesCopy_32 : decode cX12_makesCopy 32 = .ok (.iload_n 2, 1) := by decide +kernel
theorem dX12_makesCopy_33 : decode cX12_makesCopy 33 = .ok (.bipush 12, 2) := by decide +kernel
theorem dX12_makesCopy_35 : decode cX12_makesCopy 35 = .ok (.irem, 1) := by decide +kernel
theorem dX12_makesCopy_36 : decode cX12_makesCopy 36 = .ok (.iload_n 1, 1) := by decide +kernel
theorem dX12_makesCopy_37 : decode cX12_makesCopy 37 = .ok (.bipush 12, 2) := by decide +kernel
theorem dX12_makesCopy_39 : decode cX12_makesCopy 39 = .ok (.irem, 1) := by decide +kernel
theorem dX12_makesCopy_40 : decode cX12_makesCopy 40 = .ok (.isub, 1) := by decide +kernel
theorem dX12_makesCopy_41 : decode cX12_makesCopy 41 = .ok (.istore_n 3, 1) := by decide +kernel
theorem dX12_makesCopy_42 : decode cX12_makesCopy 42 = .ok (.iload_n 2, 1) := by decide +kernel
theorem dX12_makesCopy_43 : decode cX12_makesCopy 43 = .ok (.bipush 12, 2) := by decide +kernel
theorem dX12_makesCopy_45 : decode cX12_makesCopy 45 = .ok (.idiv, 1) := by decide +kernel
theorem dX12_makesCopy_46 : decode cX12_makesCopy 46 = .ok (.iload_n 1, 1) := by decide +kernel
theorem dX12_makesCopy_47 : decode cX12_makesCopy 47 = .ok (.bipush 12, 2) := by decide +kernel
theorem dX12_makesCopy_49 : decode cX12_makesCopy 49 = .ok (.idiv, 1) := by decide +kernel
theorem dX12_makesCopy_50 : decode cX12_makesCopy 50 = .ok (.isub, 1) := by decide +kernel
theorem dX12_makesCopy_51 : decode cX12_makesCopy 51 = .ok (.istore 4, 2) := by decide +kernel
theorem dX12_makesCopy_53 : decode cX12_makesCopy 53 = .ok (.iconst 1, 1) := by decide +kernel
theorem dX12_makesCopy_54 : decode cX12_makesCopy 54 = .ok (.istore 5, 2) := by decide +kernel
theorem dX12_makesCopy_56 : decode cX12_makesCopy 56 = .ok (.iconst 0, 1) := by decide +kernel
theorem dX12_makesCopy_57 : decode cX12_makesCopy 57 = .ok (.istore 6, 2) := by decide +kernel
theorem dX12_makesCopy_59 : decode cX12_makesCopy 59 = .ok (.iload 6, 2) := by decide +kernel
theorem dX12_makesCopy_61 : decode cX12_makesCopy 61 = .ok (.aload_n 0, 1) := by decide +kernel
theorem dX12_makesCopy_62 : decode cX12_makesCopy 62 = .ok (.getfield 77, 3) := by decide +kernel
theorem dX12_makesCopy_65 : decode cX12_makesCopy 65 = .ok (.sipush 288, 3) := by decide +kernel
theorem dX12_makesCopy_68 : decode cX12_makesCopy 68 = .ok (.iaload, 1) := by decide +kernel
theorem dX12_makesCopy_69 : decode cX12_makesCopy 69 = .ok (.if_icmp .ge 140, 3) := by decide +kernel
theorem dX12_makesCopy_72 : decode cX12_makesCopy 72 = .ok (.ldc 142, 2) := by decide +kernel
theorem dX12_makesCopy_74 : decode cX12_makesCopy 74 = .ok (.iload 6, 2) := by decide +kernel
theorem dX12_makesCopy_76 : decode cX12_makesCopy 76 = .ok (.iadd, 1) := by decide +kernel
theorem dX12_makesCopy_77 : decode cX12_makesCopy 77 = .ok (.istore 7, 2) := by decide +kernel
theorem dX12_makesCopy_79 : decode cX12_makesCopy 79 = .ok (.aload_n 0, 1) := by decide +kernel
theorem dX12_makesCopy_80 : decode cX12_makesCopy 80 = .ok (.getfield 65, 3) := by decide +kernel
theorem dX12_makesCopy_83 : decode cX12_makesCopy 83 = .ok (.iload 7, 2) := by decide +kernel
theorem dX12_makesCopy_85 : decode cX12_makesCopy 85 = .ok (.iaload, 1) := by decide +kernel
theorem dX12_makesCopy_86 : decode cX12_makesCopy 86 = .ok (.iconst 3, 1) := by decide +kernel
theorem dX12_makesCopy_87 : decode cX12_makesCopy 87 = .ok (.if_icmp .ne 116, 3) := by decide +kernel
theorem dX12_makesCopy_90 : decode cX12_makesCopy 90 = .ok (.aload_n 0, 1) := by decide +kernel
theorem dX12_makesCopy_91 : decode cX12_makesCopy 91 = .ok (.getfield 68, 3) := by decide +kernel
theorem dX12_makesCopy_94 : decode cX12_makesCopy 94 = .ok (.iload 7, 2) := by decide +kernel
theorem dX12_makesCopy_96 : decode cX12_makesCopy 96 = .ok (.dup2, 1) := by decide +kernel
theorem dX12_makesCopy_97 : decode cX12_makesCopy 97 = .ok (.iaload, 1) := by decide +kernel
theorem dX12_makesCopy_98 : decode cX12_makesCopy 98 = .ok (.aload_n 0, 1) := by decide +kernel
theorem dX12_makesCopy_99 : decode cX12_makesCopy 99 = .ok (.getfield 74, 3) := by decide +kernel
theorem dX12_makesCopy_102 : decode cX12_makesCopy 102 = .ok (.iload 7, 2) := by decide +kernel
theorem dX12_makesCopy_104 : decode cX12_makesCopy 104 = .ok (.iaload, 1) := by decide +kernel
theorem dX12_makesCopy_105 : decode cX12_makesCopy 105 = .ok (.iconst 1, 1) := by decide +kernel
theorem dX12_makesCopy_106 : decode cX12_makesCopy 106 = .ok (.iand, 1) := by decide +kernel
theorem dX12_makesCopy_107 : decode cX12_makesCopy 107 = .ok (.iconst 1, 1) := by decide +kernel
theorem dX12_makesCopy_108 : decode cX12_makesCopy 108 = .ok (.if_icmp .ne 7, 3) := by decide +kernel
theorem dX12_makesCopy_111 : decode cX12_makesCopy 111 = .ok (.iconst 0, 1) := by decide +kernel
theorem dX12_makesCopy_112 : decode cX12_makesCopy 112 = .ok (.goto 4, 3) := by decide +kernel
theorem dX12_makesCopy_115 : decode cX12_makesCopy 115 = .ok (.iload_n 3, 1) := by decide +kernel
theorem dX12_makesCopy_116 : decode cX12_makesCopy 116 = .ok (.iadd, 1) := by decide +kernel
theorem dX12_makesCopy_117 : decode cX12_makesCopy 117 = .ok (.iastore, 1) := by decide +kernel
theorem dX12_makesCopy_118 : decode cX12_makesCopy 118 = .ok (.aload_n 0, 1) := by decide +kernel
theorem dX12_makesCopy_119 : decode cX12_makesCopy 119 = .ok (.getfield 71, 3) := by decide +kernel
theorem dX12_makesCopy_122 : decode cX12_makesCopy 122 = .ok (.iload 7, 2) := by decide +kernel
theorem dX12_makesCopy_124 : decode cX12_makesCopy 124 = .ok (.dup2, 1) := by decide +kernel
theorem dX12_makesCopy_125 : decode cX12_makesCopy 125 = .ok (.iaload, 1) := by decide +kernel
theorem dX12_makesCopy_126 : decode cX12_makesCopy 126 = .ok (.aload_n 0, 1) := by decide +kernel
theorem dX12_makesCopy_127 : decode cX12_makesCopy 127 = .ok (.getfield 74, 3) := by decide +kernel
theorem dX12_makesCopy_130 : decode cX12_makesCopy 130 = .ok (.iload 7, 2) := by decide +kernel
theorem dX12_makesCopy_132 : decode cX12_makesCopy 132 = .ok (.iaload, 1) := by decide +kernel
theorem dX12_makesCopy_133 : decode cX12_makesCopy 133 = .ok (.iconst 2, 1) := by decide +kernel
theorem dX12_makesCopy_134 : decode cX12_makesCopy 134 = .ok (.iand, 1) := by decide +kernel
theorem dX12_makesCopy_135 : decode cX12_makesCopy 135 = .ok (.iconst 2, 1) := by decide +kernel
theorem dX12_makesCopy_136 : decode cX12_makesCopy 136 = .ok (.if_icmp .ne 7, 3) := by decide +kernel
theorem dX12_makesCopy_139 : decode cX12_makesCopy 139 = .ok (.iconst 0, 1) := by decide +kernel
theorem dX12_makesCopy_140 : decode cX12_makesCopy 140 = .ok (.goto 5, 3) := by decide +kernel
theorem dX12_makesCopy_143 : decode cX12_makesCopy 143 = .ok (.iload 4, 2) := by decide +kernel
theorem dX12_makesCopy_145 : decode cX12_makesCopy 145 = .ok (.iadd, 1) := by decide +kernel
theorem dX12_makesCopy_146 : decode cX12_makesCopy 146 = .ok (.iastore, 1) := by decide +kernel
theorem dX12_makesCopy_147 : decode cX12_makesCopy 147 = .ok (.iload 5, 2) := by decide +kernel
theorem dX12_makesCopy_149 : decode cX12_makesCopy 149 = .ok (.ifCond .eq 51, 3) := by decide +kernel
theorem dX12_makesCopy_152 : decode cX12_makesCopy 152 = .ok (.aload_n 0, 1) := by decide +kernel
theorem dX12_makesCopy_153 : decode cX12_makesCopy 153 = .ok (.getfield 68, 3) := by decide +kernel
theorem dX12_makesCopy_156 : decode cX12_makesCopy 156 = .ok (.iload 7, 2) := by decide +kernel
theorem dX12_makesCopy_158 : decode cX12_makesCopy 158 = .ok (.iaload, 1) := by decide +kernel
theorem dX12_makesCopy_159 : decode cX12_makesCopy 159 = .ok (.ifCond .lt 41, 3) := by decide +kernel
theorem dX12_makesCopy_162 : decode cX12_makesCopy 162 = .ok (.aload_n 0, 1) := by decide +kernel
theorem dX12_makesCopy_163 : decode cX12_makesCopy 163 = .ok (.getfield 68, 3) := by decide +kernel
theorem dX12_makesCopy_166 : decode cX12_makesCopy 166 = .ok (.iload 7, 2) := by decide +kernel
theorem dX12_makesCopy_168 : decode cX12_makesCopy 168 = .ok (.iaload, 1) := by decide +kernel
theorem dX12_makesCopy_169 : decode cX12_makesCopy 169 = .ok (.bipush 12, 2) := by decide +kernel
theorem dX12_makesCopy_171 : decode cX12_makesCopy 171 = .ok (.if_icmp .ge 29, 3) := by decide +kernel
theorem dX12_makesCopy_174 : decode cX12_makesCopy 174 = .ok (.aload_n 0, 1) := by decide +kernel
theorem dX12_makesCopy_175 : decode cX12_makesCopy 175 = .ok (.getfield 71, 3) := by decide +kernel
theorem dX12_makesCopy_178 : decode cX12_makesCopy 178 = .ok (.iload 7, 2) := by decide +kernel
theorem dX12_makesCopy_180 : decode cX12_makesCopy 180 = .ok (.iaload, 1) := by decide +kernel
theorem dX12_makesCopy_181 : decode cX12_makesCopy 181 = .ok (.ifCond .lt 19, 3) := by decide +kernel
theorem dX12_makesCopy_184 : decode cX12_makesCopy 184 = .ok (.aload_n 0, 1) := by decide +kernel
theorem dX12_makesCopy_185 : decode cX12_makesCopy 185 = .ok (.getfield 71, 3) := by decide +kernel
theorem dX12_makesCopy_188 : decode cX12_makesCopy 188 = .ok (.iload 7, 2) := by decide +kernel
theorem dX12_makesCopy_190 : decode cX12_makesCopy 190 = .ok (.iaload, 1) := by decide +kernel
theorem dX12_makesCopy_191 : decode cX12_makesCopy 191 = .ok (.bipush 24, 2) := by decide +kernel
theorem dX12_makesCopy_193 : decode cX12_makesCopy 193 = .ok (.if_icmp .ge 7, 3) := by decide +kernel
theorem dX12_makesCopy_196 : decode cX12_makesCopy 196 = .ok (.iconst 1, 1) := by decide +kernel
theorem dX12_makesCopy_197 : decode cX12_makesCopy 197 = .ok (.goto 4, 3) := by decide +kernel
theorem dX12_makesCopy_200 : decode cX12_makesCopy 200 = .ok (.iconst 0, 1) := by decide +kernel
theorem dX12_makesCopy_201 : decode cX12_makesCopy 201 = .ok (.istore 5, 2) := by decide +kernel
theorem dX12_makesCopy_203 : decode cX12_makesCopy 203 = .ok (.iinc 6 1, 3) := by decide +kernel
theorem dX12_makesCopy_206 : decode cX12_makesCopy 206 = .ok (.goto (-147), 3) := by decide +kernel
theorem dX12_makesCopy_209 : decode cX12_makesCopy 209 = .ok (.iconst 0, 1) := by decide +kernel
theorem dX12_makesCopy_210 : decode cX12_makesCopy 210 = .ok (.istore 6, 2) := by decide +kernel
theorem dX12_makesCopy_212 : decode cX12_makesCopy 212 = .ok (.iload 6, 2) := by decide +kernel
theorem dX12_makesCopy_214 : decode cX12_makesCopy 214 = .ok (.aload_n 0, 1) := by decide +kernel
theorem dX12_makesCopy_215 : decode cX12_makesCopy 215 = .ok (.getfield 77, 3) := by decide +kernel
theorem dX12_makesCopy_218 : decode cX12_makesCopy 218 = .ok (.sipush 288, 3) := by decide +kernel
theorem dX12_makesCopy_221 : decode cX12_makesCopy 221 = .ok (.iaload, 1) := by decide +kernel
theorem dX12_makesCopy_222 : decode cX12_makesCopy 222 = .ok (.if_icmp .ge 81, 3) := by decide +kernel
theorem dX12_makesCopy_225 : decode cX12_makesCopy 225 = .ok (.ldc 142, 2) := by decide +kernel
theorem dX12_makesCopy_227 : decode cX12_makesCopy 227 = .ok (.iload 6, 2) := by decide +kernel
theorem dX12_makesCopy_229 : decode cX12_makesCopy 229 = .ok (.iadd, 1) := by decide +kernel
theorem dX12_makesCopy_230 : decode cX12_makesCopy 230 = .ok (.istore 7, 2) := by decide +kernel
theorem dX12_makesCopy_232 : decode cX12_makesCopy 232 = .ok (.iload 5, 2) := by decide +kernel
theorem dX12_makesCopy_234 : decode cX12_makesCopy 234 = .ok (.ifCond .eq 60, 3) := by decide +kernel
theorem dX12_makesCopy_237 : decode cX12_makesCopy 237 = .ok (.aload_n 0, 1) := by decide +kernel
theorem dX12_makesCopy_238 : decode cX12_makesCopy 238 = .ok (.getfield 65, 3) := by decide +kernel
theorem dX12_makesCopy_241 : decode cX12_makesCopy 241 = .ok (.iload 7, 2) := by decide +kernel
theorem dX12_makesCopy_243 : decode cX12_makesCopy 243 = .ok (.iaload, 1) := by decide +kernel
theorem dX12_makesCopy_244 : decode cX12_makesCopy 244 = .ok (.iconst 2, 1) := by decide +kernel
theorem dX12_makesCopy_245 : decode cX12_makesCopy 245 = .ok (.if_icmp .ne 45, 3) := by decide +kernel
theorem dX12_makesCopy_248 : decode cX12_makesCopy 248 = .ok (.aload_n 0, 1) := by decide +kernel
theorem dX12_makesCopy_249 : decode cX12_makesCopy 249 = .ok (.getfield 68, 3) := by decide +kernel
theorem dX12_makesCopy_252 : decode cX12_makesCopy 252 = .ok (.iload 7, 2) := by decide +kernel
theorem dX12_makesCopy_254 : decode cX12_makesCopy 254 = .ok (.iconst 4, 1) := by decide +kernel
theorem dX12_makesCopy_255 : decode cX12_makesCopy 255 = .ok (.iadd, 1) := by decide +kernel
theorem dX12_makesCopy_256 : decode cX12_makesCopy 256 = .ok (.iaload, 1) := by decide +kernel
theorem dX12_makesCopy_257 : decode cX12_makesCopy 257 = .ok (.aload_n 0, 1) := by decide +kernel
theorem dX12_makesCopy_258 : decode cX12_makesCopy 258 = .ok (.getfield 68, 3) := by decide +kernel
theorem dX12_makesCopy_261 : decode cX12_makesCopy 261 = .ok (.iload 7, 2) := by decide +kernel
theorem dX12_makesCopy_263 : decode cX12_makesCopy 263 = .ok (.iconst 2, 1) := by decide +kernel
theorem dX12_makesCopy_264 : decode cX12_makesCopy 264 = .ok (.iadd, 1) := by decide +kernel
theorem dX12_makesCopy_265 : decode cX12_makesCopy 265 = .ok (.iaload, 1) := by decide +kernel
theorem dX12_makesCopy_266 : decode cX12_makesCopy 266 = .ok (.if_icmp .lt 28, 3) := by decide +kernel
theorem dX12_makesCopy_269 : decode cX12_makesCopy 269 = .ok (.aload_n 0, 1) := by decide +kernel
theorem dX12_makesCopy_270 : decode cX12_makesCopy 270 = .ok (.getfield 71, 3) := by decide +kernel
theorem dX12_makesCopy_273 : decode cX12_makesCopy 273 = .ok (.iload 7, 2) := by decide +kernel
theorem dX12_makesCopy_275 : decode cX12_makesCopy 275 = .ok (.iconst 4, 1) := by decide +kernel
theorem dX12_makesCopy_276 : decode cX12_makesCopy 276 = .ok (.iadd, 1) := by decide +kernel
theorem dX12_makesCopy_277 : decode cX12_makesCopy 277 = .ok (.iaload, 1) := by decide +kernel
theorem dX12_makesCopy_278 : decode cX12_makesCopy 278 = .ok (.aload_n 0, 1) := by decide +kernel
theorem dX12_makesCopy_279 : decode cX12_makesCopy 279 = .ok (.getfield 71, 3) := by decide +kernel
theorem dX12_makesCopy_282 : decode cX12_makesCopy 282 = .ok (.iload 7, 2) := by decide +kernel
theorem dX12_makesCopy_284 : decode cX12_makesCopy 284 = .ok (.iconst 2, 1) := by decide +kernel
theorem dX12_makesCopy_285 : decode cX12_makesCopy 285 = .ok (.iadd, 1) := by decide +kernel
theorem dX12_makesCopy_286 : decode cX12_makesCopy 286 = .ok (.iaload, 1) := by decide +kernel
theorem dX12_makesCopy_287 : decode cX12_makesCopy 287 = .ok (.if_icmp .lt 7, 3) := by decide +kernel
theorem dX12_makesCopy_290 : decode cX12_makesCopy 290 = .ok (.iconst 1, 1) := by decide +kernel
theorem dX12_makesCopy_291 : decode cX12_makesCopy 291 = .ok (.goto 4, 3) := by decide +kernel
theorem dX12_makesCopy_294 : decode cX12_makesCopy 294 = .ok (.iconst 0, 1) := by decide +kernel
theorem dX12_makesCopy_295 : decode cX12_makesCopy 295 = .ok (.istore 5, 2) := by decide +kernel
theorem dX12_makesCopy_297 : decode cX12_makesCopy 297 = .ok (.iinc 6 1, 3) := by decide +kernel
theorem dX12_makesCopy_300 : decode cX12_makesCopy 300 = .ok (.goto (-88), 3) := by decide +kernel
theorem dX12_makesCopy_303 : decode cX12_makesCopy 303 = .ok (.iload 5, 2) := by decide +kernel
theorem dX12_makesCopy_305 : decode cX12_makesCopy 305 = .ok (.ireturn, 1) := by decide +kernel
theorem dX12_copy_0 : decode cX12_copy 0 = .ok (.aload_n 0, 1) := by decide +kernel
theorem dX12_copy_1 : decode cX12_copy 1 = .ok (.iconst 0, 1) := by decide +kernel
theorem dX12_copy_2 : decode cX12_copy 2 = .ok (.putfield 1, 3) := by decide +kernel
theorem dX12_copy_5 : decode cX12_copy 5 = .ok (.iload_n 1, 1) := by decide +kernel
theorem dX12_copy_6 : decode cX12_copy 6 = .ok (.invokestatic 198, 3) := by decide +kernel
theorem dX12_copy_9 : decode cX12_copy 9 = .ok (.ifCond .eq 19, 3) := by decide +kernel
theorem dX12_copy_12 : decode cX12_copy 12 = .ok (.iload_n 2, 1) := by decide +kernel
theorem dX12_copy_13 : decode cX12_copy 13 = .ok (.invokestatic 198, 3) := by decide +kernel
theorem dX12_copy_16 : decode cX12_copy 16 = .ok (.ifCond .eq 12, 3) := by decide +kernel
theorem dX12_copy_19 : decode cX12_copy 19 = .ok (.aload_n 0, 1) := by decide +kernel
theorem dX12_copy_20 : decode cX12_copy 20 = .ok (.iload_n 1, 1) := by decide +kernel
theorem dX12_copy_21 : decode cX12_copy 21 = .ok (.iload_n 2, 1) := by decide +kernel
theorem dX12_copy_22 : decode cX12_copy 22 = .ok (.invokevirtual 210, 3) := by decide +kernel
theorem dX12_copy_25 : decode cX12_copy 25 = .ok (.ifCond .ne 5, 3) := by decide +kernel
theorem dX12_copy_28 : decode cX12_copy 28 = .ok (.iconst 0, 1) := by decide +kernel
theorem dX12_copy_29 : decode cX12_copy 29 = .ok (.ireturn, 1) := by decide +kernel
theorem dX12_copy_30 : decode cX12_copy 30 = .ok (.aload_n 0, 1) := by decide +kernel
theorem dX12_copy_31 : decode cX12_copy 31 = .ok (.iload_n 2, 1) := by decide +kernel
theorem dX12_copy_32 : decode cX12_copy 32 = .ok (.invokevirtual 207, 3) := by decide +kernel
theorem dX12_copy_35 : decode cX12_copy 35 = .ok (.iconst 1, 1) := by decide +kernel
theorem dX12_copy_36 : decode cX12_copy 36 = .ok (.ireturn, 1) := by decide +kernel
theorem dX12_unit_0 : decode cX12_unit 0 = .ok (.aload_n 0, 1) := by decide +kernel
theorem dX12_unit_1 : decode cX12_unit 1 = .ok (.iconst 0, 1) := by decide +kernel
theorem dX12_unit_2 : decode cX12_unit 2 = .ok (.putfield 1, 3) := by decide +kernel
theorem dX12_unit_5 : decode cX12_unit 5 = .ok (.iload_n 1, 1) := by decide +kernel
theorem dX12_unit_6 : decode cX12_unit 6 = .ok (.invokestatic 198, 3) := by decide +kernel
theorem dX12_unit_9 : decode cX12_unit 9 = .ok (.ifCond .eq 48, 3) := by decide +kernel
theorem dX12_unit_12 : decode cX12_unit 12 = .ok (.aload_n 0, 1) := by decide +kernel
theorem dX12_unit_13 : decode cX12_unit 13 = .ok (.getfield 80, 3) := by decide +kernel
theorem dX12_unit_16 : decode cX12_unit 16 = .ok (.iload_n 1, 1) := by decide +kernel
theorem dX12_unit_17 : decode cX12_unit 17 = .ok (.iaload, 1) := by decide +kernel
theorem dX12_unit_18 : decode cX12_unit 18 = .ok (.iconst 1, 1) := by decide +kernel
theorem dX12_unit_19 : decode cX12_unit 19 = .ok (.if_icmp .ne 38, 3) := by decide +kernel
theorem dX12_unit_22 : decode cX12_unit 22 = .ok (.iload_n 2, 1) := by decide +kernel
theorem dX12_unit_23 : decode cX12_unit 23 = .ok (.bipush (-4), 2) := by decide +kernel
theorem dX12_unit_25 : decode cX12_unit 25 = .ok (.if_icmp .lt 32, 3) := by decide +kernel
theorem dX12_unit_28 : decode cX12_unit 28 = .ok (.iload_n 2, 1) := by decide +kernel
theorem dX12_unit_29 : decode cX12_unit 29 = .ok (.iconst 4, 1) := by decide +kernel
theorem dX12_unit_30 : decode cX12_unit 30 = .ok (.if_icmp .gt 27, 3) := by decide +kernel
theorem dX12_unit_33 : decode cX12_unit 33 = .ok (.iload_n 3, 1) := by decide +kernel
theorem dX12_unit_34 : decode cX12_unit 34 = .ok (.bipush (-4), 2) := by decide +kernel
theorem dX12_unit_36 : decode cX12_unit 36 = .ok (.if_icmp .lt 21, 3) := by decide +kernel
theorem dX12_unit_39 : decode cX12_unit 39 = .ok (.iload_n 3, 1) := by decide +kernel
theorem dX12_unit_40 : decode cX12_unit 40 = .ok (.iconst 4, 1) := by decide +kernel
theorem dX12_unit_41 : decode cX12_unit 41 = .ok (.if_icmp .gt 16, 3) := by decide +kernel
theorem dX12_unit_44 : decode cX12_unit 44 = .ok (.iload 4, 2) := by decide +kernel
theorem dX12_unit_46 : decode cX12_unit 46 = .ok (.bipush (-4), 2) := by decide +kernel
theorem dX12_unit_48 : decode cX12_unit 48 = .ok (.if_icmp .lt 9, 3) := by decide +kernel
theorem dX12_unit_51 : decode cX12_unit 51 = .ok (.iload 4, 2) := by decide +kernel
theorem dX12_unit_53 : decode cX12_unit 53 = .ok (.iconst 4, 1) := by decide +kernel
theorem dX12_unit_54 : decode cX12_unit 54 = .ok (.if_icmp .le 5, 3) := by decide +kernel
theorem dX12_unit_57 : decode cX12_unit 57 = .ok (.iconst 0, 1) := by decide +kernel
theorem dX12_unit_58 : decode cX12_unit 58 = .ok (.ireturn, 1) := by decide +kernel
theorem dX12_unit_59 : decode cX12_unit 59 = .ok (.aload_n 0, 1) := by decide +kernel
theorem dX12_unit_60 : decode cX12_unit 60 = .ok (.getfield 86, 3) := by decide +kernel
theorem dX12_unit_63 : decode cX12_unit 63 = .ok (.iconst 3, 1) := by decide +kernel
theorem dX12_unit_64 : decode cX12_unit 64 = .ok (.iload_n 1, 1) := by decide +kernel
theorem dX12_unit_65 : decode cX12_unit 65 = .ok (.imul, 1) := by decide +kernel
theorem dX12_unit_66 : decode cX12_unit 66 = .ok (.iload_n 2, 1) := by decide +kernel
theorem dX12_unit_67 : decode cX12_unit 67 = .ok (.iastore, 1) := by decide +kernel
theorem dX12_unit_68 : decode cX12_unit 68 = .ok (.aload_n 0, 1) := by decide +kernel
theorem dX12_unit_69 : decode cX12_unit 69 = .ok (.getfield 86, 3) := by decide +kernel
theorem dX12_unit_72 : decode cX12_unit 72 = .ok (.iconst 3, 1) := by decide +kernel
theorem dX12_unit_73 : decode cX12_unit 73 = .ok (.iload_n 1, 1) := by decide +kernel
theorem dX12_unit_74 : decode cX12_unit 74 = .ok (.imul, 1) := by decide +kernel
theorem dX12_unit_75 : decode cX12_unit 75 = .ok (.iconst 1, 1) := by decide +kernel
theorem dX12_unit_76 : decode cX12_unit 76 = .ok (.iadd, 1) := by decide +kernel
theorem dX12_unit_77 : decode cX12_unit 77 = .ok (.iload_n 3, 1) := by decide +kernel
theorem dX12_unit_78 : decode cX12_unit 78 = .ok (.iastore, 1) := by decide +kernel
theorem dX12_unit_79 : decode cX12_unit 79 = .ok (.aload_n 0, 1) := by decide +kernel
theorem dX12_unit_80 : decode cX12_unit 80 = .ok (.getfield 86, 3) := by decide +kernel
theorem dX12_unit_83 : decode cX12_unit 83 = .ok (.iconst 3, 1) := by decide +kernel
theorem dX12_unit_84 : decode cX12_unit 84 = .ok (.iload_n 1, 1) := by decide +kernel
theorem dX12_unit_85 : decode cX12_unit 85 = .ok (.imul, 1) := by decide +kernel
theorem dX12_unit_86 : decode cX12_unit 86 = .ok (.iconst 2, 1) := by decide +kernel
theorem dX12_unit_87 : decode cX12_unit 87 = .ok (.iadd, 1) := by decide +kernel
theorem dX12_unit_88 : decode cX12_unit 88 = .ok (.iload 4, 2) := by decide +kernel
theorem dX12_unit_90 : decode cX12_unit 90 = .ok (.iastore, 1) := by decide +kernel
theorem dX12_unit_91 : decode cX12_unit 91 = .ok (.aload_n 0, 1) := by decide +kernel
theorem dX12_unit_92 : decode cX12_unit 92 = .ok (.invokevirtual 195, 3) := by decide +kernel
theorem dX12_unit_95 : decode cX12_unit 95 = .ok (.iconst 1, 1) := by decide +kernel
theorem dX12_unit_96 : decode cX12_unit 96 = .ok (.ireturn, 1) := by decide +kernel
theorem dX12_keep_0 : decode cX12_keep 0 = .ok (.aload_n 0, 1) := by decide +kernel
theorem dX12_keep_1 : decode cX12_keep 1 = .ok (.iconst 0, 1) := by decide +kernel
theorem dX12_keep_2 : decode cX12_keep 2 = .ok (.putfield 1, 3) := by decide +kernel
theorem dX12_keep_5 : decode cX12_keep 5 = .ok (.iload_n 1, 1) := by decide +kernel
theorem dX12_keep_6 : decode cX12_keep 6 = .ok (.invokestatic 198, 3) := by decide +kernel
theorem dX12_keep_9 : decode cX12_keep 9 = .ok (.ifCond .ne 5, 3) := by decide +kernel
theorem dX12_keep_12 : decode cX12_keep 12 = .ok (.iconst 0, 1) := by decide +kernel
theorem dX12_keep_13 : decode cX12_keep 13 = .ok (.ireturn, 1) := by decide +kernel
theorem dX12_keep_14 : decode cX12_keep 14 = .ok (.aload_n 0, 1) := by decide +kernel
theorem dX12_keep_15 : decode cX12_keep 15 = .ok (.getfield 89, 3) := by decide +kernel
theorem dX12_keep_18 : decode cX12_keep 18 = .ok (.iload_n 1, 1) := by decide +kernel
theorem dX12_keep_19 : decode cX12_keep 19 = .ok (.iload_n 2, 1) := by decide +kernel
theorem dX12_keep_20 : decode cX12_keep 20 = .ok (.bastore, 1) := by decide +kernel
theorem dX12_keep_21 : decode cX12_keep 21 = .ok (.iconst 1, 1) := by decide +kernel
theorem dX12_keep_22 : decode cX12_keep 22 = .ok (.ireturn, 1) := by decide +kernel
theorem dX12_has_0 : decode cX12_has 0 = .ok (.aload_n 0, 1) := by decide +kernel
theorem dX12_has_1 : decode cX12_has 1 = .ok (.iconst 5, 1) := by decide +kernel
theorem dX12_has_2 : decode cX12_has 2 = .ok (.iload_n 1, 1) := by decide +kernel
theorem dX12_has_3 : decode cX12_has 3 = .ok (.imul, 1) := by decide +kernel
theorem dX12_has_4 : decode cX12_has 4 = .ok (.iload_n 2, 1) := by decide +kernel
theorem dX12_has_5 : decode cX12_has 5 = .ok (.bipush 64, 2) := by decide +kernel
theorem dX12_has_7 : decode cX12_has 7 = .ok (.idiv, 1) := by decide +kernel
theorem dX12_has_8 : decode cX12_has 8 = .ok (.iadd, 1) := by decide +kernel
theorem dX12_has_9 : decode cX12_has 9 = .ok (.laload, 1) := by decide +kernel
theorem dX12_has_10 : decode cX12_has 10 = .ok (.iload_n 2, 1) := by decide +kernel
theorem dX12_has_11 : decode cX12_has 11 = .ok (.bipush 64, 2) := by decide +kernel
theorem dX12_has_13 : decode cX12_has 13 = .ok (.irem, 1) := by decide +kernel
theorem dX12_has_14 : decode cX12_has 14 = .ok (.lshr, 1) := by decide +kernel
theorem dX12_has_15 : decode cX12_has 15 = .ok (.lconst 1, 1) := by decide +kernel
theorem dX12_has_16 : decode cX12_has 16 = .ok (.land, 1) := by decide +kernel
theorem dX12_has_17 : decode cX12_has 17 = .ok (.lconst 1, 1) := by decide +kernel
theorem dX12_has_18 : decode cX12_has 18 = .ok (.lcmp, 1) := by decide +kernel
theorem dX12_has_19 : decode cX12_has 19 = .ok (.ifCond .ne 7, 3) := by decide +kernel
theorem dX12_has_22 : decode cX12_has 22 = .ok (.iconst 1, 1) := by decide +kernel
theorem dX12_has_23 : decode cX12_has 23 = .ok (.goto 4, 3) := by decide +kernel
theorem dX12_has_26 : decode cX12_has 26 = .ok (.iconst 0, 1) := by decide +kernel
theorem dX12_has_27 : decode cX12_has 27 = .ok (.ireturn, 1) := by decide +kernel
theorem dX12_findReads_0 : decode cX12_findReads 0 = .ok (.iconst 0, 1) := by decide +kernel
theorem dX12_findReads_1 : decode cX12_findReads 1 = .ok (.istore_n 1, 1) := by decide +kernel
theorem dX12_findReads_2 : decode cX12_findReads 2 = .ok (.iload_n 1, 1) := by decide +kernel
theorem dX12_findReads_3 : decode cX12_findReads 3 = .ok (.sipush 1440, 3) := by decide +kernel
theorem dX12_findReads_6 : decode cX12_findReads 6 = .ok (.if_icmp .ge 16, 3) := by decide +kernel
theorem dX12_findReads_9 : decode cX12_findReads 9 = .ok (.aload_n 0, 1) := by decide +kernel
theorem dX12_findReads_10 : decode cX12_findReads 10 = .ok (.getfield 96, 3) := by decide +kernel
theorem dX12_findReads_13 : decode cX12_findReads 13 = .ok (.iload_n 1, 1) := by decide +kernel
theorem dX12_findReads_14 : decode cX12_findReads 14 = .ok (.lconst 0, 1) := by decide +kernel
theorem dX12_findReads_15 : decode cX12_findReads 15 = .ok (.lastore, 1) := by decide +kernel
theorem dX12_findReads_16 : decode cX12_findReads 16 = .ok (.iinc 1 1, 3) := by decide +kernel
theorem dX12_findReads_19 : decode cX12_findReads 19 = .ok (.goto (-17), 3) := by decide +kernel
theorem dX12_findReads_22 : decode cX12_findReads 22 = .ok (.iconst 0, 1) := by decide +kernel
theorem dX12_findReads_23 : decode cX12_findReads 23 = .ok (.istore_n 1, 1) := by decide +kernel
theorem dX12_findReads_24 : decode cX12_findReads 24 = .ok (.iload_n 1, 1) := by decide +kernel
theorem dX12_findReads_25 : decode cX12_findReads 25 = .ok (.sipush 288, 3) := by decide +kernel
theorem dX12_findReads_28 : decode cX12_findReads 28 = .ok (.if_icmp .ge 130, 3) := by decide +kernel
theorem dX12_findReads_31 : decode cX12_findReads 31 = .ok (.iconst 0, 1) := by decide +kernel
theorem dX12_findReads_32 : decode cX12_findReads 32 = .ok (.istore_n 2, 1) := by decide +kernel
theorem dX12_findReads_33 : decode cX12_findReads 33 = .ok (.iload_n 2, 1) := by decide +kernel
theorem dX12_findReads_34 : decode cX12_findReads 34 = .ok (.aload_n 0, 1) := by decide +kernel
theorem dX12_findReads_35 : decode cX12_findReads 35 = .ok (.getfield 77, 3) := by decide +kernel
theorem dX12_findReads_38 : decode cX12_findReads 38 = .ok (.iload_n 1, 1) := by decide +kernel
theorem dX12_findReads_39 : decode cX12_findReads 39 = .ok (.iaload, 1) := by decide +kernel
theorem dX12_findReads_40 : decode cX12_findReads 40 = .ok (.if_icmp .ge 112, 3) := by decide +kernel
theorem dX12_findReads_43 : decode cX12_findReads 43 = .ok (.aload_n 0, 1) := by decide +kernel
theorem dX12_findReads_44 : decode cX12_findReads 44 = .ok (.getfield 80, 3) := by decide +kernel
theorem dX12_findReads_47 : decode cX12_findReads 47 = .ok (.iload_n 1, 1) := by decide +kernel
theorem dX12_findReads_48 : decode cX12_findReads 48 = .ok (.iaload, 1) := by decide +kernel
theorem dX12_findReads_49 : decode cX12_findReads 49 = .ok (.iconst 2, 1) := by decide +kernel
theorem dX12_findReads_50 : decode cX12_findReads 50 = .ok (.if_icmp .ne 102, 3) := by decide +kernel
theorem dX12_findReads_53 : decode cX12_findReads 53 = .ok (.bipush 120, 2) := by decide +kernel
theorem dX12_findReads_55 : decode cX12_findReads 55 = .ok (.iload_n 1, 1) := by decide +kernel
theorem dX12_findReads_56 : decode cX12_findReads 56 = .ok (.imul, 1) := by decide +kernel
theorem dX12_findReads_57 : decode cX12_findReads 57 = .ok (.iload_n 2, 1) := by decide +kernel
theorem dX12_findReads_58 : decode cX12_findReads 58 = .ok (.iadd, 1) := by decide +kernel
theorem dX12_findReads_59 : decode cX12_findReads 59 = .ok (.istore_n 3, 1) := by decide +kernel
theorem dX12_findReads_60 : decode cX12_findReads 60 = .ok (.aload_n 0, 1) := by decide +kernel
theorem dX12_findReads_61 : decode cX12_findReads 61 = .ok (.getfield 65, 3) := by decide +kernel
theorem dX12_findReads_64 : decode cX12_findReads 64 = .ok (.iload_n 3, 1) := by decide +kernel
theorem dX12_findReads_65 : decode cX12_findReads 65 = .ok (.iaload, 1) := by decide +kernel
theorem dX12_findReads_66 : decode cX12_findReads 66 = .ok (.iconst 3, 1) := by decide +kernel
theorem dX12_findReads_67 : decode cX12_findReads 67 = .ok (.if_icmp .ne 79, 3) := by decide +kernel
theorem dX12_findReads_70 : decode cX12_findReads 70 = .ok (.aload_n 0, 1) := by decide +kernel
theorem dX12_findReads_71 : decode cX12_findReads 71 = .ok (.iload_n 1, 1) := by decide +kernel
theorem dX12_findReads_72 : decode cX12_findReads 72 = .ok (.iload_n 2, 1) := by decide +kernel
theorem dX12_findReads_73 : decode cX12_findReads 73 = .ok (.invokevirtual 214, 3) := by decide +kernel
theorem dX12_findReads_76 : decode cX12_findReads 76 = .ok (.istore 4, 2) := by decide +kernel
theorem dX12_findReads_78 : decode cX12_findReads 78 = .ok (.aload_n 0, 1) := by decide +kernel
theorem dX12_findReads_79 : decode cX12_findReads 79 = .ok (.getfield 71, 3) := by decide +kernel
theorem dX12_findReads_82 : decode cX12_findReads 82 = .ok (.iload_n 3, 1) := by decide +kernel
theorem dX12_findReads_83 : decode cX12_findReads 83 = .ok (.iaload, 1) := by decide +kernel
theorem dX12_findReads_84 : decode cX12_findReads 84 = .ok (.istore 5, 2) := by decide +kernel
theorem dX12_findReads_86 : decode cX12_findReads 86 = .ok (.iload 5, 2) := by decide +kernel
theorem dX12_findReads_88 : decode cX12_findReads 88 = .ok (.aload_n 0, 1) := by decide +kernel
theorem dX12_findReads_89 : decode cX12_findReads 89 = .ok (.getfield 71, 3) := by decide +kernel
theorem dX12_findReads_92 : decode cX12_findReads 92 = .ok (.iload 4, 2) := by decide +kernel
theorem dX12_findReads_94 : decode cX12_findReads 94 = .ok (.iaload, 1) := by decide +kernel
theorem dX12_findReads_95 : decode cX12_findReads 95 = .ok (.if_icmp .gt 51, 3) := by decide +kernel
theorem dX12_findReads_98 : decode cX12_findReads 98 = .ok (.aload_n 0, 1) := by decide +kernel
theorem dX12_findReads_99 : decode cX12_findReads 99 = .ok (.getfield 68, 3) := by decide +kernel
theorem dX12_findReads_102 : decode cX12_findReads 102 = .ok (.iload_n 3, 1) := by decide +kernel
theorem dX12_findReads_103 : decode cX12_findReads 103 = .ok (.iaload, 1) := by decide +kernel
theorem dX12_findReads_104 : decode cX12_findReads 104 = .ok (.istore 6, 2) := by decide +kernel
theorem dX12_findReads_106 : decode cX12_findReads 106 = .ok (.iload 6, 2) := by decide +kernel
theorem dX12_findReads_108 : decode cX12_findReads 108 = .ok (.aload_n 0, 1) := by decide +kernel
theorem dX12_findReads_109 : decode cX12_findReads 109 = .ok (.getfield 68, 3) := by decide +kernel
theorem dX12_findReads_112 : decode cX12_findReads 112 = .ok (.iload 4, 2) := by decide +kernel
theorem dX12_findReads_114 : decode cX12_findReads 114 = .ok (.iaload, 1) := by decide +kernel
theorem dX12_findReads_115 : decode cX12_findReads 115 = .ok (.if_icmp .gt 25, 3) := by decide +kernel
theorem dX12_findReads_118 : decode cX12_findReads 118 = .ok (.aload_n 0, 1) := by decide +kernel
theorem dX12_findReads_119 : decode cX12_findReads 119 = .ok (.getfield 96, 3) := by decide +kernel
theorem dX12_findReads_122 : decode cX12_findReads 122 = .ok (.iload_n 1, 1) := by decide +kernel
theorem dX12_findReads_123 : decode cX12_findReads 123 = .ok (.bipush 12, 2) := by decide +kernel
theorem dX12_findReads_125 : decode cX12_findReads 125 = .ok (.iload 5, 2) := by decide +kernel
theorem dX12_findReads_127 : decode cX12_findReads 127 = .ok (.imul, 1) := by decide +kernel
theorem dX12_findReads_128 : decode cX12_findReads 128 = .ok (.iload 6, 2) := by decide +kernel
theorem dX12_findReads_130 : decode cX12_findReads 130 = .ok (.iadd, 1) := by decide +kernel
theorem dX12_findReads_131 : decode cX12_findReads 131 = .ok (.invokestatic 218, 3) := by decide +kernel
theorem dX12_findReads_134 : decode cX12_findReads 134 = .ok (.iinc 6 1, 3) := by decide +kernel
theorem dX12_findReads_137 : decode cX12_findReads 137 = .ok (.goto (-31), 3) := by decide +kernel
theorem dX12_findReads_140 : decode cX12_findReads 140 = .ok (.iinc 5 1, 3) := by decide +kernel
theorem dX12_findReads_143 : decode cX12_findReads 143 = .ok (.goto (-57), 3) := by decide +kernel
theorem dX12_findReads_146 : decode cX12_findReads 146 = .ok (.iinc 2 1, 3) := by decide +kernel
theorem dX12_findReads_149 : decode cX12_findReads 149 = .ok (.goto (-116), 3) := by decide +kernel
theorem dX12_findReads_152 : decode cX12_findReads 152 = .ok (.iinc 1 1, 3) := by decide +kernel
theorem dX12_findReads_155 : decode cX12_findReads 155 = .ok (.goto (-131), 3) := by decide +kernel
theorem dX12_findReads_158 : decode cX12_findReads 158 = .ok (.iconst 0, 1) := by decide +kernel
theorem dX12_findReads_159 : decode cX12_findReads 159 = .ok (.istore_n 1, 1) := by decide +kernel
theorem dX12_findReads_160 : decode cX12_findReads 160 = .ok (.iload_n 1, 1) := by decide +kernel
theorem dX12_findReads_161 : decode cX12_findReads 161 = .ok (.sipush 1440, 3) := by decide +kernel
theorem dX12_findReads_164 : decode cX12_findReads 164 = .ok (.if_icmp .ge 21, 3) := by decide +kernel
theorem dX12_findReads_167 : decode cX12_findReads 167 = .ok (.aload_n 0, 1) := by decide +kernel
theorem dX12_findReads_168 : decode cX12_findReads 168 = .ok (.getfield 99, 3) := by decide +kernel
theorem dX12_findReads_171 : decode cX12_findReads 171 = .ok (.iload_n 1, 1) := by decide +kernel
theorem dX12_findReads_172 : decode cX12_findReads 172 = .ok (.aload_n 0, 1) := by decide +kernel
theorem dX12_findReads_173 : decode cX12_findReads 173 = .ok (.getfield 96, 3) := by decide +kernel
theorem dX12_findReads_176 : decode cX12_findReads 176 = .ok (.iload_n 1, 1) := by decide +kernel
theorem dX12_findReads_177 : decode cX12_findReads 177 = .ok (.laload, 1) := by decide +kernel
theorem dX12_findReads_178 : decode cX12_findReads 178 = .ok (.lastore, 1) := by decide +kernel
theorem dX12_findReads_179 : decode cX12_findReads 179 = .ok (.iinc 1 1, 3) := by decide +kernel
theorem dX12_findReads_182 : decode cX12_findReads 182 = .ok (.goto (-22), 3) := by decide +kernel
theorem dX12_findReads_185 : decode cX12_findReads 185 = .ok (.iconst 0, 1) := by decide +kernel
theorem dX12_findReads_186 : decode cX12_findReads 186 = .ok (.istore_n 1, 1) := by decide +kernel
theorem dX12_findReads_187 : decode cX12_findReads 187 = .ok (.iload_n 1, 1) := by decide +kernel
theorem dX12_findReads_188 : decode cX12_findReads 188 = .ok (.sipush 288, 3) := by decide +kernel
theorem dX12_findReads_191 : decode cX12_findReads 191 = .ok (.if_icmp .ge 82, 3) := by decide +kernel
theorem dX12_findReads_194 : decode cX12_findReads 194 = .ok (.iconst 0, 1) := by decide +kernel
theorem dX12_findReads_195 : decode cX12_findReads 195 = .ok (.istore_n 2, 1) := by decide +kernel
theorem dX12_findReads_196 : decode cX12_findReads 196 = .ok (.iload_n 2, 1) := by decide +kernel
theorem dX12_findReads_197 : decode cX12_findReads 197 = .ok (.sipush 288, 3) := by decide +kernel
theorem dX12_findReads_200 : decode cX12_findReads 200 = .ok (.if_icmp .ge 67, 3) := by decide +kernel
theorem dX12_findReads_203 : decode cX12_findReads 203 = .ok (.aload_n 0, 1) := by decide +kernel
theorem dX12_findReads_204 : decode cX12_findReads 204 = .ok (.getfield 80, 3) := by decide +kernel
theorem dX12_findReads_207 : decode cX12_findReads 207 = .ok (.iload_n 1, 1) := by decide +kernel
theorem dX12_findReads_208 : decode cX12_findReads 208 = .ok (.iaload, 1) := by decide +kernel
theorem dX12_findReads_209 : decode cX12_findReads 209 = .ok (.iconst 2, 1) := by decide +kernel
theorem dX12_findReads_210 : decode cX12_findReads 210 = .ok (.if_icmp .ne 57, 3) := by decide +kernel
theorem dX12_findReads_213 : decode cX12_findReads 213 = .ok (.aload_n 0, 1) := by decide +kernel
theorem dX12_findReads_214 : decode cX12_findReads 214 = .ok (.getfield 99, 3) := by decide +kernel
theorem dX12_findReads_217 : decode cX12_findReads 217 = .ok (.iload_n 2, 1) := by decide +kernel
theorem dX12_findReads_218 : decode cX12_findReads 218 = .ok (.iload_n 1, 1) := by decide +kernel
theorem dX12_findReads_219 : decode cX12_findReads 219 = .ok (.invokestatic 222, 3) := by decide +kernel
theorem dX12_findReads_222 : decode cX12_findReads 222 = .ok (.ifCond .eq 39, 3) := by decide +kernel
theorem dX12_findReads_225 : decode cX12_findReads 225 = .ok (.iconst 0, 1) := by decide +kernel
theorem dX12_findReads_226 : decode cX12_findReads 226 = .ok (.istore_n 3, 1) := by decide +kernel
theorem dX12_findReads_227 : decode cX12_findReads 227 = .ok (.iload_n 3, 1) := by decide +kernel
theorem dX12_findReads_228 : decode cX12_findReads 228 = .ok (.iconst 5, 1) := by decide +kernel
theorem dX12_findReads_229 : decode cX12_findReads 229 = .ok (.if_icmp .ge 32, 3) := by decide +kernel
theorem dX12_findReads_232 : decode cX12_findReads 232 = .ok (.aload_n 0, 1) := by decide +kernel
theorem dX12_findReads_233 : decode cX12_findReads 233 = .ok (.getfield 99, 3) := by decide +kernel
theorem dX12_findReads_236 : decode cX12_findReads 236 = .ok (.iconst 5, 1) := by decide +kernel
theorem dX12_findReads_237 : decode cX12_findReads 237 = .ok (.iload_n 2, 1) := by decide +kernel
theorem dX12_findReads_238 : decode cX12_findReads 238 = .ok (.imul, 1) := by decide +kernel
theorem dX12_findReads_239 : decode cX12_findReads 239 = .ok (.iload_n 3, 1) := by decide +kernel
theorem dX12_findReads_240 : decode cX12_findReads 240 = .ok (.iadd, 1) := by decide +kernel
theorem dX12_findReads_241 : decode cX12_findReads 241 = .ok (.dup2, 1) := by decide +kernel
theorem dX12_findReads_242 : decode cX12_findReads 242 = .ok (.laload, 1) := by decide +kernel
theorem dX12_findReads_243 : decode cX12_findReads 243 = .ok (.aload_n 0, 1) := by decide +kernel
theorem dX12_findReads_244 : decode cX12_findReads 244 = .ok (.getfield 99, 3) := by decide +kernel
theorem dX12_findReads_247 : decode cX12_findReads 247 = .ok (.iconst 5, 1) := by decide +kernel
theorem dX12_findReads_248 : decode cX12_findReads 248 = .ok (.iload_n 1, 1) := by decide +kernel
theorem dX12_findReads_249 : decode cX12_findReads 249 = .ok (.imul, 1) := by decide +kernel
theorem dX12_findReads_250 : decode cX12_findReads 250 = .ok (.iload_n 3, 1) := by decide +kernel
theorem dX12_findReads_251 : decode cX12_findReads 251 = .ok (.iadd, 1) := by decide +kernel
theorem dX12_findReads_252 : decode cX12_findReads 252 = .ok (.laload, 1) := by decide +kernel
theorem dX12_findReads_253 : decode cX12_findReads 253 = .ok (.lor, 1) := by decide +kernel
theorem dX12_findReads_254 : decode cX12_findReads 254 = .ok (.lastore, 1) := by decide +kernel
theorem dX12_findReads_255 : decode cX12_findReads 255 = .ok (.iinc 3 1, 3) := by decide +kernel
theorem dX12_findReads_258 : decode cX12_findReads 258 = .ok (.goto (-31), 3) := by decide +kernel
theorem dX12_findReads_261 : decode cX12_findReads 261 = .ok (.iinc 2 1, 3) := by decide +kernel
theorem dX12_findReads_264 : decode cX12_findReads 264 = .ok (.goto (-68), 3) := by decide +kernel
theorem dX12_findReads_267 : decode cX12_findReads 267 = .ok (.iinc 1 1, 3) := by decide +kernel
theorem dX12_findReads_270 : decode cX12_findReads 270 = .ok (.goto (-83), 3) := by decide +kernel
theorem dX12_findReads_273 : decode cX12_findReads 273 = .ok (.return_, 1) := by decide +kernel
theorem dX12_works_0 : decode cX12_works 0 = .ok (.aload_n 0, 1) := by decide +kernel
theorem dX12_works_1 : decode cX12_works 1 = .ok (.invokevirtual 226, 3) := by decide +kernel
theorem dX12_works_4 : decode cX12_works 4 = .ok (.iconst 0, 1) := by decide +kernel
theorem dX12_works_5 : decode cX12_works 5 = .ok (.istore_n 1, 1) := by decide +kernel
theorem dX12_works_6 : decode cX12_works 6 = .ok (.iload_n 1, 1) := by decide +kernel
theorem dX12_works_7 : decode cX12_works 7 = .ok (.sipush 288, 3) := by decide +kernel
theorem dX12_works_10 : decode cX12_works 10 = .ok (.if_icmp .ge 154, 3) := by decide +kernel
theorem dX12_works_13 : decode cX12_works 13 = .ok (.aload_n 0, 1) := by decide +kernel
theorem dX12_works_14 : decode cX12_works 14 = .ok (.getfield 124, 3) := by decide +kernel
theorem dX12_works_17 : decode cX12_works 17 = .ok (.iload_n 1, 1) := by decide +kernel
theorem dX12_works_18 : decode cX12_works 18 = .ok (.aload_n 0, 1) := by decide +kernel
theorem dX12_works_19 : decode cX12_works 19 = .ok (.getfield 80, 3) := by decide +kernel
theorem dX12_works_22 : decode cX12_works 22 = .ok (.iload_n 1, 1) := by decide +kernel
theorem dX12_works_23 : decode cX12_works 23 = .ok (.iaload, 1) := by decide +kernel
theorem dX12_works_24 : decode cX12_works 24 = .ok (.iconst 2, 1) := by decide +kernel
theorem dX12_works_25 : decode cX12_works 25 = .ok (.if_icmp .ne 11, 3) := by decide +kernel
theorem dX12_works_28 : decode cX12_works 28 = .ok (.aload_n 0, 1) := by decide +kernel
theorem dX12_works_29 : decode cX12_works 29 = .ok (.iload_n 1, 1) := by decide +kernel
theorem dX12_works_30 : decode cX12_works 30 = .ok (.invokevirtual 229, 3) := by decide +kernel
theorem dX12_works_33 : decode cX12_works 33 = .ok (.ifCond .eq 7, 3) := by decide +kernel
theorem dX12_works_36 : decode cX12_works 36 = .ok (.iconst 1, 1) := by decide +kernel
theorem dX12_works_37 : decode cX12_works 37 = .ok (.goto 4, 3) := by decide +kernel
theorem dX12_works_40 : decode cX12_works 40 = .ok (.iconst 0, 1) := by decide +kernel
theorem dX12_works_41 : decode cX12_works 41 = .ok (.bastore, 1) := by decide +kernel
theorem dX12_works_42 : decode cX12_works 42 = .ok (.aload_n 0, 1) := by decide +kernel
theorem dX12_works_43 : decode cX12_works 43 = .ok (.getfield 102, 3) := by decide +kernel
theorem dX12_works_46 : decode cX12_works 46 = .ok (.iload_n 1, 1) := by decide +kernel
theorem dX12_works_47 : decode cX12_works 47 = .ok (.aload_n 0, 1) := by decide +kernel
theorem dX12_works_48 : decode cX12_works 48 = .ok (.getfield 80, 3) := by decide +kernel
theorem dX12_works_51 : decode cX12_works 51 = .ok (.iload_n 1, 1) := by decide +kernel
theorem dX12_works_52 : decode cX12_works 52 = .ok (.iaload, 1) := by decide +kernel
theorem dX12_works_53 : decode cX12_works 53 = .ok (.iconst 1, 1) := by decide +kernel
theorem dX12_works_54 : decode cX12_works 54 = .ok (.if_icmp .ne 12, 3) := by decide +kernel
theorem dX12_works_57 : decode cX12_works 57 = .ok (.aload_n 0, 1) := by decide +kernel
theorem dX12_works_58 : decode cX12_works 58 = .ok (.getfield 83, 3) := by decide +kernel
theorem dX12_works_61 : decode cX12_works 61 = .ok (.iload_n 1, 1) := by decide +kernel
theorem dX12_works_62 : decode cX12_works 62 = .ok (.iaload, 1) := by decide +kernel
theorem dX12_works_63 : decode cX12_works 63 = .ok (.goto 4, 3) := by decide +kernel
theorem dX12_works_66 : decode cX12_works 66 = .ok (.iconst 0, 1) := by decide +kernel
theorem dX12_works_67 : decode cX12_works 67 = .ok (.iastore, 1) := by decide +kernel
theorem dX12_works_68 : decode cX12_works 68 = .ok (.aload_n 0, 1) := by decide +kernel
theorem dX12_works_69 : decode cX12_works 69 = .ok (.getfield 105, 3) := by decide +kernel
theorem dX12_works_72 : decode cX12_works 72 = .ok (.iload_n 1, 1) := by decide +kernel
theorem dX12_works_73 : decode cX12_works 73 = .ok (.aload_n 0, 1) := by decide +kernel
theorem dX12_works_74 : decode cX12_works 74 = .ok (.getfield 80, 3) := by decide +kernel
theorem dX12_works_77 : decode cX12_works 77 = .ok (.iload_n 1, 1) := by decide +kernel
theorem dX12_works_78 : decode cX12_works 78 = .ok (.iaload, 1) := by decide +kernel
theorem dX12_works_79 : decode cX12_works 79 = .ok (.iconst 2, 1) := by decide +kernel
theorem dX12_works_80 : decode cX12_works 80 = .ok (.if_icmp .ne 15, 3) := by decide +kernel
theorem dX12_works_83 : decode cX12_works 83 = .ok (.aload_n 0, 1) := by decide +kernel
theorem dX12_works_84 : decode cX12_works 84 = .ok (.iload_n 1, 1) := by decide +kernel
theorem dX12_works_85 : decode cX12_works 85 = .ok (.invokevirtual 229, 3) := by decide +kernel
theorem dX12_works_88 : decode cX12_works 88 = .ok (.ifCond .eq 7, 3) := by decide +kernel
theorem dX12_works_91 : decode cX12_works 91 = .ok (.iconst 2, 1) := by decide +kernel
theorem dX12_works_92 : decode cX12_works 92 = .ok (.goto 4, 3) := by decide +kernel
theorem dX12_works_95 : decode cX12_works 95 = .ok (.iconst 0, 1) := by decide +kernel
theorem dX12_works_96 : decode cX12_works 96 = .ok (.iastore, 1) := by decide +kernel
theorem dX12_works_97 : decode cX12_works 97 = .ok (.aload_n 0, 1) := by decide +kernel
theorem dX12_works_98 : decode cX12_works 98 = .ok (.getfield 111, 3) := by decide +kernel
theorem dX12_works_101 : decode cX12_works 101 = .ok (.iload_n 1, 1) := by decide +kernel
theorem dX12_works_102 : decode cX12_works 102 = .ok (.iconst 0, 1) := by decide +kernel
theorem dX12_works_103 : decode cX12_works 103 = .ok (.bastore, 1) := by decide +kernel
theorem dX12_works_104 : decode cX12_works 104 = .ok (.aload_n 0, 1) := by decide +kernel
theorem dX12_works_105 : decode cX12_works 105 = .ok (.getfield 114, 3) := by decide +kernel
theorem dX12_works_108 : decode cX12_works 108 = .ok (.iload_n 1, 1) := by decide +kernel
theorem dX12_works_109 : decode cX12_works 109 = .ok (.iconst 0, 1) := by decide +kernel
theorem dX12_works_110 : decode cX12_works 110 = .ok (.bastore, 1) := by decide +kernel
theorem dX12_works_111 : decode cX12_works 111 = .ok (.iconst 0, 1) := by decide +kernel
theorem dX12_works_112 : decode cX12_works 112 = .ok (.istore_n 2, 1) := by decide +kernel
theorem dX12_works_113 : decode cX12_works 113 = .ok (.iload_n 2, 1) := by decide +kernel
theorem dX12_works_114 : decode cX12_works 114 = .ok (.iconst 3, 1) := by decide +kernel
theorem dX12_works_115 : decode cX12_works 115 = .ok (.if_icmp .ge 43, 3) := by decide +kernel
theorem dX12_works_118 : decode cX12_works 118 = .ok (.aload_n 0, 1) := by decide +kernel
theorem dX12_works_119 : decode cX12_works 119 = .ok (.getfield 108, 3) := by decide +kernel
theorem dX12_works_122 : decode cX12_works 122 = .ok (.iconst 3, 1) := by decide +kernel
theorem dX12_works_123 : decode cX12_works 123 = .ok (.iload_n 1, 1) := by decide +kernel
theorem dX12_works_124 : decode cX12_works 124 = .ok (.imul, 1) := by decide +kernel
theorem dX12_works_125 : decode cX12_works 125 = .ok (.iload_n 2, 1) := by decide +kernel
theorem dX12_works_126 : decode cX12_works 126 = .ok (.iadd, 1) := by decide +kernel
theorem dX12_works_127 : decode cX12_works 127 = .ok (.aload_n 0, 1) := by decide +kernel
theorem dX12_works_128 : decode cX12_works 128 = .ok (.getfield 80, 3) := by decide +kernel
theorem dX12_works_131 : decode cX12_works 131 = .ok (.iload_n 1, 1) := by decide +kernel
theorem dX12_works_132 : decode cX12_works 132 = .ok (.iaload, 1) := by decide +kernel
theorem dX12_works_133 : decode cX12_works 133 = .ok (.iconst 1, 1) := by decide +kernel
theorem dX12_works_134 : decode cX12_works 134 = .ok (.if_icmp .ne 16, 3) := by decide +kernel
theorem dX12_works_137 : decode cX12_works 137 = .ok (.aload_n 0, 1) := by decide +kernel
theorem dX12_works_138 : decode cX12_works 138 = .ok (.getfield 86, 3) := by decide +kernel
theorem dX12_works_141 : decode cX12_works 141 = .ok (.iconst 3, 1) := by decide +kernel
theorem dX12_works_142 : decode cX12_works 142 = .ok (.iload_n 1, 1) := by decide +kernel
theorem dX12_works_143 : decode cX12_works 143 = .ok (.imul, 1) := by decide +kernel
theorem dX12_works_144 : decode cX12_works 144 = .ok (.iload_n 2, 1) := by decide +kernel
theorem dX12_works_145 : decode cX12_works 145 = .ok (.iadd, 1) := by decide +kernel
theorem dX12_works_146 : decode cX12_works 146 = .ok (.iaload, 1) := by decide +kernel
theorem dX12_works_147 : decode cX12_works 147 = .ok (.goto 4, 3) := by decide +kernel
theorem dX12_works_150 : decode cX12_works 150 = .ok (.iconst 0, 1) := by decide +kernel
theorem dX12_works_151 : decode cX12_works 151 = .ok (.iastore, 1) := by decide +kernel
theorem dX12_works_152 : decode cX12_works 152 = .ok (.iinc 2 1, 3) := by decide +kernel
theorem dX12_works_155 : decode cX12_works 155 = .ok (.goto (-42), 3) := by decide +kernel
theorem dX12_works_158 : decode cX12_works 158 = .ok (.iinc 1 1, 3) := by decide +kernel
theorem dX12_works_161 : decode cX12_works 161 = .ok (.goto (-155), 3) := by decide +kernel
theorem dX12_works_164 : decode cX12_works 164 = .ok (.iconst 1, 1) := by decide +kernel
theorem dX12_works_165 : decode cX12_works 165 = .ok (.istore_n 1, 1) := by decide +kernel
theorem dX12_works_166 : decode cX12_works 166 = .ok (.iload_n 1, 1) := by decide +kernel
theorem dX12_works_167 : decode cX12_works 167 = .ok (.ifCond .eq 54, 3) := by decide +kernel
theorem dX12_works_170 : decode cX12_works 170 = .ok (.iconst 0, 1) := by decide +kernel
theorem dX12_works_171 : decode cX12_works 171 = .ok (.istore_n 1, 1) := by decide +kernel
theorem dX12_works_172 : decode cX12_works 172 = .ok (.iconst 0, 1) := by decide +kernel
theorem dX12_works_173 : decode cX12_works 173 = .ok (.istore_n 2, 1) := by decide +kernel
theorem dX12_works_174 : decode cX12_works 174 = .ok (.iload_n 2, 1) := by decide +kernel
theorem dX12_works_175 : decode cX12_works 175 = .ok (.sipush 288, 3) := by decide +kernel
theorem dX12_works_178 : decode cX12_works 178 = .ok (.if_icmp .ge 40, 3) := by decide +kernel
theorem dX12_works_181 : decode cX12_works 181 = .ok (.aload_n 0, 1) := by decide +kernel
theorem dX12_works_182 : decode cX12_works 182 = .ok (.getfield 124, 3) := by decide +kernel
theorem dX12_works_185 : decode cX12_works 185 = .ok (.iload_n 2, 1) := by decide +kernel
theorem dX12_works_186 : decode cX12_works 186 = .ok (.baload, 1) := by decide +kernel
theorem dX12_works_187 : decode cX12_works 187 = .ok (.ifCond .ne 25, 3) := by decide +kernel
theorem dX12_works_190 : decode cX12_works 190 = .ok (.aload_n 0, 1) := by decide +kernel
theorem dX12_works_191 : decode cX12_works 191 = .ok (.iload_n 2, 1) := by decide +kernel
theorem dX12_works_192 : decode cX12_works 192 = .ok (.invokevirtual 232, 3) := by decide +kernel
theorem dX12_works_195 : decode cX12_works 195 = .ok (.ifCond .eq 17, 3) := by decide +kernel
theorem dX12_works_198 : decode cX12_works 198 = .ok (.aload_n 0, 1) := by decide +kernel
theorem dX12_works_199 : decode cX12_works 199 = .ok (.iload_n 2, 1) := by decide +kernel
theorem dX12_works_200 : decode cX12_works 200 = .ok (.invokevirtual 235, 3) := by decide +kernel
theorem dX12_works_203 : decode cX12_works 203 = .ok (.aload_n 0, 1) := by decide +kernel
theorem dX12_works_204 : decode cX12_works 204 = .ok (.getfield 124, 3) := by decide +kernel
theorem dX12_works_207 : decode cX12_works 207 = .ok (.iload_n 2, 1) := by decide +kernel
theorem dX12_works_208 : decode cX12_works 208 = .ok (.iconst 1, 1) := by decide +kernel
theorem dX12_works_209 : decode cX12_works 209 = .ok (.bastore, 1) := by decide +kernel
theorem dX12_works_210 : decode cX12_works 210 = .ok (.iconst 1, 1) := by decide +kernel
theorem dX12_works_211 : decode cX12_works 211 = .ok (.istore_n 1, 1) := by decide +kernel
theorem dX12_works_212 : decode cX12_works 212 = .ok (.iinc 2 1, 3) := by decide +kernel
theorem dX12_works_215 : decode cX12_works 215 = .ok (.goto (-41), 3) := by decide +kernel
theorem dX12_works_218 : decode cX12_works 218 = .ok (.goto (-52), 3) := by decide +kernel
theorem dX12_works_221 : decode cX12_works 221 = .ok (.aload_n 0, 1) := by decide +kernel
theorem dX12_works_222 : decode cX12_works 222 = .ok (.invokevirtual 238, 3) := by decide +kernel
theorem dX12_works_225 : decode cX12_works 225 = .ok (.return_, 1) := by decide +kernel
theorem dX12_findFamilies_0 : decode cX12_findFamilies 0 = .ok (.iconst 0, 1) := by decide +kernel
theorem dX12_findFamilies_1 : decode cX12_findFamilies 1 = .ok (.istore_n 1, 1) := by decide +kernel
theorem dX12_findFamilies_2 : decode cX12_findFamilies 2 = .ok (.iload_n 1, 1) := by decide +kernel
theorem dX12_findFamilies_3 : decode cX12_findFamilies 3 = .ok (.sipush 288, 3) := by decide +kernel
theorem dX12_findFamilies_6 : decode cX12_findFamilies 6 = .ok (.if_icmp .ge 89, 3) := by decide +kernel
theorem dX12_findFamilies_9 : decode cX12_findFamilies 9 = .ok (.aload_n 0, 1) := by decide +kernel
theorem dX12_findFamilies_10 : decode cX12_findFamilies 10 = .ok (.getfield 117, 3) := by decide +kernel
theorem dX12_findFamilies_13 : decode cX12_findFamilies 13 = .ok (.iload_n 1, 1) := by decide +kernel
theorem dX12_findFamilies_14 : decode cX12_findFamilies 14 = .ok (.iconst (-1), 1) := by decide +kernel
theorem dX12_findFamilies_15 : decode cX12_findFamilies 15 = .ok (.iastore, 1) := by decide +kernel
theorem dX12_findFamilies_16 : decode cX12_findFamilies 16 = .ok (.iconst 0, 1) := by decide +kernel
theorem dX12_findFamilies_17 : decode cX12_findFamilies 17 = .ok (.istore_n 2, 1) := by decide +kernel
theorem dX12_findFamilies_18 : decode cX12_findFamilies 18 = .ok (.iload_n 2, 1) := by decide +kernel
theorem dX12_findFamilies_19 : decode cX12_findFamilies 19 = .ok (.iload_n 1, 1) := by decide +kernel
theorem dX12_findFamilies_20 : decode cX12_findFamilies 20 = .ok (.if_icmp .gt 69, 3) := by decide +kernel
theorem dX12_findFamilies_23 : decode cX12_findFamilies 23 = .ok (.aload_n 0, 1) := by decide +kernel
theorem dX12_findFamilies_24 : decode cX12_findFamilies 24 = .ok (.getfield 117, 3) := by decide +kernel
theorem dX12_findFamilies_27 : decode cX12_findFamilies 27 = .ok (.iload_n 1, 1) := by decide +kernel
theorem dX12_findFamilies_28 : decode cX12_findFamilies 28 = .ok (.iaload, 1) := by decide +kernel
theorem dX12_findFamilies_29 : decode cX12_findFamilies 29 = .ok (.ifCond .ge 60, 3) := by decide +kernel
theorem dX12_findFamilies_32 : decode cX12_findFamilies 32 = .ok (.aload_n 0, 1) := by decide +kernel
theorem dX12_findFamilies_33 : decode cX12_findFamilies 33 = .ok (.getfield 80, 3) := by decide +kernel
theorem dX12_findFamilies_36 : decode cX12_findFamilies 36 = .ok (.iload_n 1, 1) := by decide +kernel
theorem dX12_findFamilies_37 : decode cX12_findFamilies 37 = .ok (.iaload, 1) := by decide +kernel
theorem dX12_findFamilies_38 : decode cX12_findFamilies 38 = .ok (.iconst 2, 1) := by decide +kernel
theorem dX12_findFamilies_39 : decode cX12_findFamilies 39 = .ok (.if_icmp .ne 50, 3) := by decide +kernel
theorem dX12_findFamilies_42 : decode cX12_findFamilies 42 = .ok (.aload_n 0, 1) := by decide +kernel
theorem dX12_findFamilies_43 : decode cX12_findFamilies 43 = .ok (.getfield 80, 3) := by decide +kernel
theorem dX12_findFamilies_46 : decode cX12_findFamilies 46 = .ok (.iload_n 2, 1) := by decide +kernel
theorem dX12_findFamilies_47 : decode cX12_findFamilies 47 = .ok (.iaload, 1) := by decide +kernel
theorem dX12_findFamilies_48 : decode cX12_findFamilies 48 = .ok (.iconst 2, 1) := by decide +kernel
theorem dX12_findFamilies_49 : decode cX12_findFamilies 49 = .ok (.if_icmp .ne 34, 3) := by decide +kernel
theorem dX12_findFamilies_52 : decode cX12_findFamilies 52 = .ok (.iload_n 2, 1) := by decide +kernel
theorem dX12_findFamilies_53 : decode cX12_findFamilies 53 = .ok (.iload_n 1, 1) := by decide +kernel
theorem dX12_findFamilies_54 : decode cX12_findFamilies 54 = .ok (.if_icmp .eq 22, 3) := by decide +kernel
theorem dX12_findFamilies_57 : decode cX12_findFamilies 57 = .ok (.aload_n 0, 1) := by decide +kernel
theorem dX12_findFamilies_58 : decode cX12_findFamilies 58 = .ok (.getfield 117, 3) := by decide +kernel
theorem dX12_findFamilies_61 : decode cX12_findFamilies 61 = .ok (.iload_n 2, 1) := by decide +kernel
theorem dX12_findFamilies_62 : decode cX12_findFamilies 62 = .ok (.iaload, 1) := by decide +kernel
theorem dX12_findFamilies_63 : decode cX12_findFamilies 63 = .ok (.iload_n 2, 1) := by decide +kernel
theorem dX12_findFamilies_64 : decode cX12_findFamilies 64 = .ok (.if_icmp .ne 19, 3) := by decide +kernel
theorem dX12_findFamilies_67 : decode cX12_findFamilies 67 = .ok (.aload_n 0, 1) := by decide +kernel
theorem dX12_findFamilies_68 : decode cX12_findFamilies 68 = .ok (.iload_n 1, 1) := by decide +kernel
theorem dX12_findFamilies_69 : decode cX12_findFamilies 69 = .ok (.iload_n 2, 1) := by decide +kernel
theorem dX12_findFamilies_70 : decode cX12_findFamilies 70 = .ok (.invokevirtual 311, 3) := by decide +kernel
theorem dX12_findFamilies_73 : decode cX12_findFamilies 73 = .ok (.ifCond .eq 10, 3) := by decide +kernel
theorem dX12_findFamilies_76 : decode cX12_findFamilies 76 = .ok (.aload_n 0, 1) := by decide +kernel
theorem dX12_findFamilies_77 : decode cX12_findFamilies 77 = .ok (.getfield 117, 3) := by decide +kernel
theorem dX12_findFamilies_80 : decode cX12_findFamilies 80 = .ok (.iload_n 1, 1) := by decide +kernel
theorem dX12_findFamilies_81 : decode cX12_findFamilies 81 = .ok (.iload_n 2, 1) := by decide +kernel
theorem dX12_findFamilies_82 : decode cX12_findFamilies 82 = .ok (.iastore, 1) := by decide +kernel
theorem dX12_findFamilies_83 : decode cX12_findFamilies 83 = .ok (.iinc 2 1, 3) := by decide +kernel
theorem dX12_findFamilies_86 : decode cX12_findFamilies 86 = .ok (.goto (-68), 3) := by decide +kernel
theorem dX12_findFamilies_89 : decode cX12_findFamilies 89 = .ok (.iinc 1 1, 3) := by decide +kernel
theorem dX12_findFamilies_92 : decode cX12_findFamilies 92 = .ok (.goto (-90), 3) := by decide +kernel
theorem dX12_findFamilies_95 : decode cX12_findFamilies 95 = .ok (.return_, 1) := by decide +kernel
theorem dX12_check_0 : decode cX12_check 0 = .ok (.aload_n 0, 1) := by decide +kernel
theorem dX12_check_1 : decode cX12_check 1 = .ok (.iconst 0, 1) := by decide +kernel
theorem dX12_check_2 : decode cX12_check 2 = .ok (.putfield 1, 3) := by decide +kernel
theorem dX12_check_5 : decode cX12_check 5 = .ok (.aload_n 0, 1) := by decide +kernel
theorem dX12_check_6 : decode cX12_check 6 = .ok (.iconst 0, 1) := by decide +kernel
theorem dX12_check_7 : decode cX12_check 7 = .ok (.putfield 314, 3) := by decide +kernel
theorem dX12_check_10 : decode cX12_check 10 = .ok (.iconst 0, 1) := by decide +kernel
theorem dX12_check_11 : decode cX12_check 11 = .ok (.istore_n 1, 1) := by decide +kernel
theorem dX12_check_12 : decode cX12_check 12 = .ok (.iload_n 1, 1) := by decide +kernel
theorem dX12_check_13 : decode cX12_check 13 = .ok (.sipush 288, 3) := by decide +kernel
theorem dX12_check_16 : decode cX12_check 16 = .ok (.if_icmp .ge 133, 3) := by decide +kernel
theorem dX12_check_19 : decode cX12_check 19 = .ok (.aload_n 0, 1) := by decide +kernel
theorem dX12_check_20 : decode cX12_check 20 = .ok (.iload_n 1, 1) := by decide +kernel
theorem dX12_check_21 : decode cX12_check 21 = .ok (.invokevirtual 327, 3) := by decide +kernel
theorem dX12_check_24 : decode cX12_check 24 = .ok (.istore_n 2, 1) := by decide +kernel
theorem dX12_check_25 : decode cX12_check 25 = .ok (.iload_n 2, 1) := by decide +kernel
theorem dX12_check_26 : decode cX12_check 26 = .ok (.ifCond .lt 24, 3) := by decide +kernel
theorem dX12_check_29 : decode cX12_check 29 = .ok (.aload_n 0, 1) := by decide +kernel
theorem dX12_check_30 : decode cX12_check 30 = .ok (.aload_n 0, 1) := by decide +kernel
theorem dX12_check_31 : decode cX12_check 31 = .ok (.getfield 80, 3) := by decide +kernel
theorem dX12_check_34 : decode cX12_check 34 = .ok (.iload_n 1, 1) := by decide +kernel
theorem dX12_check_35 : decode cX12_check 35 = .ok (.iaload, 1) := by decide +kernel
theorem dX12_check_36 : decode cX12_check 36 = .ok (.iconst 2, 1) := by decide +kernel
theorem dX12_check_37 : decode cX12_check 37 = .ok (.if_icmp .ne 7, 3) := by decide +kernel
theorem dX12_check_40 : decode cX12_check 40 = .ok (.iconst 1, 1) := by decide +kernel
theorem dX12_check_41 : decode cX12_check 41 = .ok (.goto 4, 3) := by decide +kernel
theorem dX12_check_44 : decode cX12_check 44 = .ok (.iconst 2, 1) := by decide +kernel
theorem dX12_check_45 : decode cX12_check 45 = .ok (.iload_n 1, 1) := by decide +kernel
theorem dX12_check_46 : decode cX12_check 46 = .ok (.iload_n 2, 1) := by decide +kernel
theorem dX12_check_47 : decode cX12_check 47 = .ok (.invokevirtual 324, 3) := by decide +kernel
theorem dX12_check_50 : decode cX12_check 50 = .ok (.aload_n 0, 1) := by decide +kernel
theorem dX12_check_51 : decode cX12_check 51 = .ok (.getfield 80, 3) := by decide +kernel
theorem dX12_check_54 : decode cX12_check 54 = .ok (.iload_n 1, 1) := by decide +kernel
theorem dX12_check_55 : decode cX12_check 55 = .ok (.iaload, 1) := by decide +kernel
theorem dX12_check_56 : decode cX12_check 56 = .ok (.iconst 2, 1) := by decide +kernel
theorem dX12_check_57 : decode cX12_check 57 = .ok (.if_icmp .ne 8, 3) := by decide +kernel
theorem dX12_check_60 : decode cX12_check 60 = .ok (.aload_n 0, 1) := by decide +kernel
theorem dX12_check_61 : decode cX12_check 61 = .ok (.iload_n 1, 1) := by decide +kernel
theorem dX12_check_62 : decode cX12_check 62 = .ok (.invokevirtual 330, 3) := by decide +kernel
theorem dX12_check_65 : decode cX12_check 65 = .ok (.aload_n 0, 1) := by decide +kernel
theorem dX12_check_66 : decode cX12_check 66 = .ok (.getfield 114, 3) := by decide +kernel
theorem dX12_check_69 : decode cX12_check 69 = .ok (.iload_n 1, 1) := by decide +kernel
theorem dX12_check_70 : decode cX12_check 70 = .ok (.baload, 1) := by decide +kernel
theorem dX12_check_71 : decode cX12_check 71 = .ok (.ifCond .eq 22, 3) := by decide +kernel
theorem dX12_check_74 : decode cX12_check 74 = .ok (.aload_n 0, 1) := by decide +kernel
theorem dX12_check_75 : decode cX12_check 75 = .ok (.iload_n 1, 1) := by decide +kernel
theorem dX12_check_76 : decode cX12_check 76 = .ok (.invokevirtual 333, 3) := by decide +kernel
theorem dX12_check_79 : decode cX12_check 79 = .ok (.ifCond .lt 14, 3) := by decide +kernel
theorem dX12_check_82 : decode cX12_check 82 = .ok (.aload_n 0, 1) := by decide +kernel
theorem dX12_check_83 : decode cX12_check 83 = .ok (.iconst 4, 1) := by decide +kernel
theorem dX12_check_84 : decode cX12_check 84 = .ok (.iload_n 1, 1) := by decide +kernel
theorem dX12_check_85 : decode cX12_check 85 = .ok (.aload_n 0, 1) := by decide +kernel
theorem dX12_check_86 : decode cX12_check 86 = .ok (.iload_n 1, 1) := by decide +kernel
theorem dX12_check_87 : decode cX12_check 87 = .ok (.invokevirtual 333, 3) := by decide +kernel
theorem dX12_check_90 : decode cX12_check 90 = .ok (.invokevirtual 324, 3) := by decide +kernel
theorem dX12_check_93 : decode cX12_check 93 = .ok (.aload_n 0, 1) := by decide +kernel
theorem dX12_check_94 : decode cX12_check 94 = .ok (.getfield 80, 3) := by decide +kernel
theorem dX12_check_97 : decode cX12_check 97 = .ok (.iload_n 1, 1) := by decide +kernel
theorem dX12_check_98 : decode cX12_check 98 = .ok (.iaload, 1) := by decide +kernel
theorem dX12_check_99 : decode cX12_check 99 = .ok (.ifCond .eq 27, 3) := by decide +kernel
theorem dX12_check_102 : decode cX12_check 102 = .ok (.aload_n 0, 1) := by decide +kernel
theorem dX12_check_103 : decode cX12_check 103 = .ok (.iload_n 1, 1) := by decide +kernel
theorem dX12_check_104 : decode cX12_check 104 = .ok (.invokevirtual 336, 3) := by decide +kernel
theorem dX12_check_107 : decode cX12_check 107 = .ok (.ifCond .ne 19, 3) := by decide +kernel
theorem dX12_check_110 : decode cX12_check 110 = .ok (.aload_n 0, 1) := by decide +kernel
theorem dX12_check_111 : decode cX12_check 111 = .ok (.getfield 89, 3) := by decide +kernel
theorem dX12_check_114 : decode cX12_check 114 = .ok (.iload_n 1, 1) := by decide +kernel
theorem dX12_check_115 : decode cX12_check 115 = .ok (.baload, 1) := by decide +kernel
theorem dX12_check_116 : decode cX12_check 116 = .ok (.ifCond .ne 10, 3) := by decide +kernel
theorem dX12_check_119 : decode cX12_check 119 = .ok (.aload_n 0, 1) := by decide +kernel
theorem dX12_check_120 : decode cX12_check 120 = .ok (.iconst 5, 1) := by decide +kernel
theorem dX12_check_121 : decode cX12_check 121 = .ok (.iload_n 1, 1) := by decide +kernel
theorem dX12_check_122 : decode cX12_check 122 = .ok (.iconst (-1), 1) := by decide +kernel
theorem dX12_check_123 : decode cX12_check 123 = .ok (.invokevirtual 324, 3) := by decide +kernel
theorem dX12_check_126 : decode cX12_check 126 = .ok (.aload_n 0, 1) := by decide +kernel
theorem dX12_check_127 : decode cX12_check 127 = .ok (.getfield 111, 3) := by decide +kernel
theorem dX12_check_130 : decode cX12_check 130 = .ok (.iload_n 1, 1) := by decide +kernel
theorem dX12_check_131 : decode cX12_check 131 = .ok (.baload, 1) := by decide +kernel
theorem dX12_check_132 : decode cX12_check 132 = .ok (.ifCond .eq 11, 3) := by decide +kernel
theorem dX12_check_135 : decode cX12_check 135 = .ok (.aload_n 0, 1) := by decide +kernel
theorem dX12_check_136 : decode cX12_check 136 = .ok (.bipush 6, 2) := by decide +kernel
theorem dX12_check_138 : decode cX12_check 138 = .ok (.iload_n 1, 1) := by decide +kernel
theorem dX12_check_139 : decode cX12_check 139 = .ok (.iconst (-1), 1) := by decide +kernel
theorem dX12_check_140 : decode cX12_check 140 = .ok (.invokevirtual 324, 3) := by decide +kernel
theorem dX12_check_143 : decode cX12_check 143 = .ok (.iinc 1 1, 3) := by decide +kernel
theorem dX12_check_146 : decode cX12_check 146 = .ok (.goto (-134), 3) := by decide +kernel
theorem dX12_check_149 : decode cX12_check 149 = .ok (.aload_n 0, 1) := by decide +kernel
theorem dX12_check_150 : decode cX12_check 150 = .ok (.getfield 314, 3) := by decide +kernel
theorem dX12_check_153 : decode cX12_check 153 = .ok (.ireturn, 1) := by decide +kernel
theorem dX12_oddBy_0 : decode cX12_oddBy 0 = .ok (.aload_n 0, 1) := by decide +kernel
theorem dX12_oddBy_1 : decode cX12_oddBy 1 = .ok (.getfield 80, 3) := by decide +kernel
theorem dX12_oddBy_4 : decode cX12_oddBy 4 = .ok (.iload_n 1, 1) := by decide +kernel
theorem dX12_oddBy_5 : decode cX12_oddBy 5 = .ok (.iaload, 1) := by decide +kernel
theorem dX12_oddBy_6 : decode cX12_oddBy 6 = .ok (.ifCond .ne 5, 3) := by decide +kernel
theorem dX12_oddBy_9 : decode cX12_oddBy 9 = .ok (.iconst (-1), 1) := by decide +kernel
theorem dX12_oddBy_10 : decode cX12_oddBy 10 = .ok (.ireturn, 1) := by decide +kernel
theorem dX12_oddBy_11 : decode cX12_oddBy 11 = .ok (.iload_n 1, 1) := by decide +kernel
theorem dX12_oddBy_12 : decode cX12_oddBy 12 = .ok (.bipush 12, 2) := by decide +kernel
theorem dX12_oddBy_14 : decode cX12_oddBy 14 = .ok (.irem, 1) := by decide +kernel
theorem dX12_oddBy_15 : decode cX12_oddBy 15 = .ok (.istore_n 2, 1) := by decide +kernel
theorem dX12_oddBy_16 : decode cX12_oddBy 16 = .ok (.iload_n 1, 1) := by decide +kernel
theorem dX12_oddBy_17 : decode cX12_oddBy 17 = .ok (.bipush 12, 2) := by decide +kernel
theorem dX12_oddBy_19 : decode cX12_oddBy 19 = .ok (.idiv, 1) := by decide +kernel
theorem dX12_oddBy_20 : decode cX12_oddBy 20 = .ok (.istore_n 3, 1) := by decide +kernel
theorem dX12_oddBy_21 : decode cX12_oddBy 21 = .ok (.aload_n 0, 1) := by decide +kernel
theorem dX12_oddBy_22 : decode cX12_oddBy 22 = .ok (.iload_n 2, 1) := by decide +kernel
theorem dX12_oddBy_23 : decode cX12_oddBy 23 = .ok (.iconst 1, 1) := by decide +kernel
theorem dX12_oddBy_24 : decode cX12_oddBy 24 = .ok (.isub, 1) := by decide +kernel
theorem dX12_oddBy_25 : decode cX12_oddBy 25 = .ok (.iload_n 3, 1) := by decide +kernel
theorem dX12_oddBy_26 : decode cX12_oddBy 26 = .ok (.invokevirtual 317, 3) := by decide +kernel
theorem dX12_oddBy_29 : decode cX12_oddBy 29 = .ok (.istore 4, 2) := by decide +kernel
theorem dX12_oddBy_31 : decode cX12_oddBy 31 = .ok (.iload 4, 2) := by decide +kernel
theorem dX12_oddBy_33 : decode cX12_oddBy 33 = .ok (.ifCond .lt 31, 3) := by decide +kernel
theorem dX12_oddBy_36 : decode cX12_oddBy 36 = .ok (.iload 4, 2) := by decide +kernel
theorem dX12_oddBy_38 : decode cX12_oddBy 38 = .ok (.aload_n 0, 1) := by decide +kernel
theorem dX12_oddBy_39 : decode cX12_oddBy 39 = .ok (.iload_n 2, 1) := by decide +kernel
theorem dX12_oddBy_40 : decode cX12_oddBy 40 = .ok (.iconst 1, 1) := by decide +kernel
theorem dX12_oddBy_41 : decode cX12_oddBy 41 = .ok (.iadd, 1) := by decide +kernel
theorem dX12_oddBy_42 : decode cX12_oddBy 42 = .ok (.iload_n 3, 1) := by decide +kernel
theorem dX12_oddBy_43 : decode cX12_oddBy 43 = .ok (.invokevirtual 317, 3) := by decide +kernel
theorem dX12_oddBy_46 : decode cX12_oddBy 46 = .ok (.if_icmp .ne 18, 3) := by decide +kernel
theorem dX12_oddBy_49 : decode cX12_oddBy 49 = .ok (.iload 4, 2) := by decide +kernel
theorem dX12_oddBy_51 : decode cX12_oddBy 51 = .ok (.aload_n 0, 1) := by decide +kernel
theorem dX12_oddBy_52 : decode cX12_oddBy 52 = .ok (.getfield 117, 3) := by decide +kernel
theorem dX12_oddBy_55 : decode cX12_oddBy 55 = .ok (.iload_n 1, 1) := by decide +kernel
theorem dX12_oddBy_56 : decode cX12_oddBy 56 = .ok (.iaload, 1) := by decide +kernel
theorem dX12_oddBy_57 : decode cX12_oddBy 57 = .ok (.if_icmp .eq 7, 3) := by decide +kernel
theorem dX12_oddBy_60 : decode cX12_oddBy 60 = .ok (.iload_n 1, 1) := by decide +kernel
theorem dX12_oddBy_61 : decode cX12_oddBy 61 = .ok (.iconst 1, 1) := by decide +kernel
theorem dX12_oddBy_62 : decode cX12_oddBy 62 = .ok (.isub, 1) := by decide +kernel
theorem dX12_oddBy_63 : decode cX12_oddBy 63 = .ok (.ireturn, 1) := by decide +kernel
theorem dX12_oddBy_64 : decode cX12_oddBy 64 = .ok (.aload_n 0, 1) := by decide +kernel
theorem dX12_oddBy_65 : decode cX12_oddBy 65 = .ok (.iload_n 2, 1) := by decide +kernel
theorem dX12_oddBy_66 : decode cX12_oddBy 66 = .ok (.iload_n 3, 1) := by decide +kernel
theorem dX12_oddBy_67 : decode cX12_oddBy 67 = .ok (.iconst 1, 1) := by decide +kernel
theorem dX12_oddBy_68 : decode cX12_oddBy 68 = .ok (.isub, 1) := by decide +kernel
theorem dX12_oddBy_69 : decode cX12_oddBy 69 = .ok (.invokevirtual 317, 3) := by decide +kernel
theorem dX12_oddBy_72 : decode cX12_oddBy 72 = .ok (.istore 5, 2) := by decide +kernel
theorem dX12_oddBy_74 : decode cX12_oddBy 74 = .ok (.iload 5, 2) := by decide +kernel
theorem dX12_oddBy_76 : decode cX12_oddBy 76 = .ok (.ifCond .lt 34, 3) := by decide +kernel
theorem dX12_oddBy_79 : decode cX12_oddBy 79 = .ok (.iload 5, 2) := by decide +kernel
theorem dX12_oddBy_81 : decode cX12_oddBy 81 = .ok (.aload_n 0, 1) := by decide +kernel
theorem dX12_oddBy_82 : decode cX12_oddBy 82 = .ok (.iload_n 2, 1) := by decide +kernel
theorem dX12_oddBy_83 : decode cX12_oddBy 83 = .ok (.iload_n 3, 1) := by decide +kernel
theorem dX12_oddBy_84 : decode cX12_oddBy 84 = .ok (.iconst 1, 1) := by decide +kernel
theorem dX12_oddBy_85 : decode cX12_oddBy 85 = .ok (.iadd, 1) := by decide +kernel
theorem dX12_oddBy_86 : decode cX12_oddBy 86 = .ok (.invokevirtual 317, 3) := by decide +kernel
theorem dX12_oddBy_89 : decode cX12_oddBy 89 = .ok (.if_icmp .ne 21, 3) := by decide +kernel
theorem dX12_oddBy_92 : decode cX12_oddBy 92 = .ok (.iload 5, 2) := by decide +kernel
theorem dX12_oddBy_94 : decode cX12_oddBy 94 = .ok (.aload_n 0, 1) := by decide +kernel
theorem dX12_oddBy_95 : decode cX12_oddBy 95 = .ok (.getfield 117, 3) := by decide +kernel
theorem dX12_oddBy_98 : decode cX12_oddBy 98 = .ok (.iload_n 1, 1) := by decide +kernel
theorem dX12_oddBy_99 : decode cX12_oddBy 99 = .ok (.iaload, 1) := by decide +kernel
theorem dX12_oddBy_100 : decode cX12_oddBy 100 = .ok (.if_icmp .eq 10, 3) := by decide +kernel
theorem dX12_oddBy_103 : decode cX12_oddBy 103 = .ok (.iload_n 1, 1) := by decide +kernel
theorem dX12_oddBy_104 : decode cX12_oddBy 104 = .ok (.bipush 12, 2) := by decide +kernel
theorem dX12_oddBy_106 : decode cX12_oddBy 106 = .ok (.isub, 1) := by decide +kernel
theorem dX12_oddBy_107 : decode cX12_oddBy 107 = .ok (.goto 4, 3) := by decide +kernel
theorem dX12_oddBy_110 : decode cX12_oddBy 110 = .ok (.iconst (-1), 1) := by decide +kernel
theorem dX12_oddBy_111 : decode cX12_oddBy 111 = .ok (.ireturn, 1) := by decide +kernel
theorem dX12_finding_0 : decode cX12_finding 0 = .ok (.aload_n 0, 1) := by decide +kernel
theorem dX12_finding_1 : decode cX12_finding 1 = .ok (.iconst 0, 1) := by decide +kernel
theorem dX12_finding_2 : decode cX12_finding 2 = .ok (.putfield 1, 3) := by decide +kernel
theorem dX12_finding_5 : decode cX12_finding 5 = .ok (.iload_n 1, 1) := by decide +kernel
theorem dX12_finding_6 : decode cX12_finding 6 = .ok (.ifCond .lt 27, 3) := by decide +kernel
theorem dX12_finding_9 : decode cX12_finding 9 = .ok (.iload_n 1, 1) := by decide +kernel
theorem dX12_finding_10 : decode cX12_finding 10 = .ok (.aload_n 0, 1) := by decide +kernel
theorem dX12_finding_11 : decode cX12_finding 11 = .ok (.getfield 314, 3) := by decide +kernel
theorem dX12_finding_14 : decode cX12_finding 14 = .ok (.if_icmp .ge 19, 3) := by decide +kernel
theorem dX12_finding_17 : decode cX12_finding 17 = .ok (.iload_n 1, 1) := by decide +kernel
theorem dX12_finding_18 : decode cX12_finding 18 = .ok (.sipush 300, 3) := by decide +kernel
theorem dX12_finding_21 : decode cX12_finding 21 = .ok (.if_icmp .ge 12, 3) := by decide +kernel
theorem dX12_finding_24 : decode cX12_finding 24 = .ok (.iload_n 2, 1) := by decide +kernel
theorem dX12_finding_25 : decode cX12_finding 25 = .ok (.ifCond .lt 8, 3) := by decide +kernel
theorem dX12_finding_28 : decode cX12_finding 28 = .ok (.iload_n 2, 1) := by decide +kernel
theorem dX12_finding_29 : decode cX12_finding 29 = .ok (.iconst 2, 1) := by decide +kernel
theorem dX12_finding_30 : decode cX12_finding 30 = .ok (.if_icmp .le 7, 3) := by decide +kernel
theorem dX12_finding_33 : decode cX12_finding 33 = .ok (.iconst (-1), 1) := by decide +kernel
theorem dX12_finding_34 : decode cX12_finding 34 = .ok (.goto 13, 3) := by decide +kernel
theorem dX12_finding_37 : decode cX12_finding 37 = .ok (.aload_n 0, 1) := by decide +kernel
theorem dX12_finding_38 : decode cX12_finding 38 = .ok (.getfield 130, 3) := by decide +kernel
theorem dX12_finding_41 : decode cX12_finding 41 = .ok (.iconst 3, 1) := by decide +kernel
theorem dX12_finding_42 : decode cX12_finding 42 = .ok (.iload_n 1, 1) := by decide +kernel
theorem dX12_finding_43 : decode cX12_finding 43 = .ok (.imul, 1) := by decide +kernel
theorem dX12_finding_44 : decode cX12_finding 44 = .ok (.iload_n 2, 1) := by decide +kernel
theorem dX12_finding_45 : decode cX12_finding 45 = .ok (.iadd, 1) := by decide +kernel
theorem dX12_finding_46 : decode cX12_finding 46 = .ok (.iaload, 1) := by decide +kernel
theorem dX12_finding_47 : decode cX12_finding 47 = .ok (.ireturn, 1) := by decide +kernel
theorem dX12_mend_0 : decode cX12_mend 0 = .ok (.aload_n 0, 1) := by decide +kernel
theorem dX12_mend_1 : decode cX12_mend 1 = .ok (.iconst 0, 1) := by decide +kernel
theorem dX12_mend_2 : decode cX12_mend 2 = .ok (.putfield 1, 3) := by decide +kernel
theorem dX12_mend_5 : decode cX12_mend 5 = .ok (.iload_n 1, 1) := by decide +kernel
theorem dX12_mend_6 : decode cX12_mend 6 = .ok (.invokestatic 198, 3) := by decide +kernel
theorem dX12_mend_9 : decode cX12_mend 9 = .ok (.ifCond .eq 11, 3) := by decide +kernel
theorem dX12_mend_12 : decode cX12_mend 12 = .ok (.aload_n 0, 1) := by decide +kernel
theorem dX12_mend_13 : decode cX12_mend 13 = .ok (.iload_n 1, 1) := by decide +kernel
theorem dX12_mend_14 : decode cX12_mend 14 = .ok (.invokevirtual 327, 3) := by decide +kernel
theorem dX12_mend_17 : decode cX12_mend 17 = .ok (.goto 4, 3) := by decide +kernel
theorem dX12_mend_20 : decode cX12_mend 20 = .ok (.iconst (-1), 1) := by decide +kernel
theorem dX12_mend_21 : decode cX12_mend 21 = .ok (.istore_n 2, 1) := by decide +kernel
theorem dX12_mend_22 : decode cX12_mend 22 = .ok (.iload_n 2, 1) := by decide +kernel
theorem dX12_mend_23 : decode cX12_mend 23 = .ok (.ifCond .lt 12, 3) := by decide +kernel
theorem dX12_mend_26 : decode cX12_mend 26 = .ok (.aload_n 0, 1) := by decide +kernel
theorem dX12_mend_27 : decode cX12_mend 27 = .ok (.iload_n 2, 1) := by decide +kernel
theorem dX12_mend_28 : decode cX12_mend 28 = .ok (.iload_n 1, 1) := by decide +kernel
theorem dX12_mend_29 : decode cX12_mend 29 = .ok (.invokevirtual 210, 3) := by decide +kernel
theorem dX12_mend_32 : decode cX12_mend 32 = .ok (.ifCond .ne 5, 3) := by decide +kernel
theorem dX12_mend_35 : decode cX12_mend 35 = .ok (.iconst (-1), 1) := by decide +kernel
theorem dX12_mend_36 : decode cX12_mend 36 = .ok (.ireturn, 1) := by decide +kernel
theorem dX12_mend_37 : decode cX12_mend 37 = .ok (.aload_n 0, 1) := by decide +kernel
theorem dX12_mend_38 : decode cX12_mend 38 = .ok (.invokevirtual 342, 3) := by decide +kernel
theorem dX12_mend_41 : decode cX12_mend 41 = .ok (.aload_n 0, 1) := by decide +kernel
theorem dX12_mend_42 : decode cX12_mend 42 = .ok (.iload_n 1, 1) := by decide +kernel
theorem dX12_mend_43 : decode cX12_mend 43 = .ok (.invokevirtual 207, 3) := by decide +kernel
theorem dX12_mend_46 : decode cX12_mend 46 = .ok (.aload_n 0, 1) := by decide +kernel
theorem dX12_mend_47 : decode cX12_mend 47 = .ok (.invokevirtual 345, 3) := by decide +kernel
theorem dX12_mend_50 : decode cX12_mend 50 = .ok (.ireturn, 1) := by decide +kernel
theorem dX12_stretch_0 : decode cX12_stretch 0 = .ok (.aload_n 0, 1) := by decide +kernel
theorem dX12_stretch_1 : decode cX12_stretch 1 = .ok (.iconst 0, 1) := by decide +kernel
theorem dX12_stretch_2 : decode cX12_stretch 2 = .ok (.putfield 1, 3) := by decide +kernel
theorem dX12_stretch_5 : decode cX12_stretch 5 = .ok (.iload_n 1, 1) := by decide +kernel
theorem dX12_stretch_6 : decode cX12_stretch 6 = .ok (.invokestatic 198, 3) := by decide +kernel
theorem dX12_stretch_9 : decode cX12_stretch 9 = .ok (.ifCond .eq 22, 3) := by decide +kernel
theorem dX12_stretch_12 : decode cX12_stretch 12 = .ok (.aload_n 0, 1) := by decide +kernel
theorem dX12_stretch_13 : decode cX12_stretch 13 = .ok (.getfield 80, 3) := by decide +kernel
theorem dX12_stretch_16 : decode cX12_stretch 16 = .ok (.iload_n 1, 1) := by decide +kernel
theorem dX12_stretch_17 : decode cX12_stretch 17 = .ok (.iaload, 1) := by decide +kernel
theorem dX12_stretch_18 : decode cX12_stretch 18 = .ok (.iconst 2, 1) := by decide +kernel
theorem dX12_stretch_19 : decode cX12_stretch 19 = .ok (.if_icmp .ne 12, 3) := by decide +kernel
theorem dX12_stretch_22 : decode cX12_stretch 22 = .ok (.aload_n 0, 1) := by decide +kernel
theorem dX12_stretch_23 : decode cX12_stretch 23 = .ok (.iload_n 1, 1) := by decide +kernel
theorem dX12_stretch_24 : decode cX12_stretch 24 = .ok (.iload_n 2, 1) := by decide +kernel
theorem dX12_stretch_25 : decode cX12_stretch 25 = .ok (.invokevirtual 348, 3) := by decide +kernel
theorem dX12_stretch_28 : decode cX12_stretch 28 = .ok (.goto 4, 3) := by decide +kernel
theorem dX12_stretch_31 : decode cX12_stretch 31 = .ok (.iconst (-1), 1) := by decide +kernel
theorem dX12_stretch_32 : decode cX12_stretch 32 = .ok (.istore_n 3, 1) := by decide +kernel
theorem dX12_stretch_33 : decode cX12_stretch 33 = .ok (.iload_n 3, 1) := by decide +kernel
theorem dX12_stretch_34 : decode cX12_stretch 34 = .ok (.ifCond .ge 5, 3) := by decide +kernel
theorem dX12_stretch_37 : decode cX12_stretch 37 = .ok (.iconst (-1), 1) := by decide +kernel
theorem dX12_stretch_38 : decode cX12_stretch 38 = .ok (.ireturn, 1) := by decide +kernel
theorem dX12_stretch_39 : decode cX12_stretch 39 = .ok (.aload_n 0, 1) := by decide +kernel
theorem dX12_stretch_40 : decode cX12_stretch 40 = .ok (.iload_n 1, 1) := by decide +kernel
theorem dX12_stretch_41 : decode cX12_stretch 41 = .ok (.bipush 120, 2) := by decide +kernel
theorem dX12_stretch_43 : decode cX12_stretch 43 = .ok (.iload_n 1, 1) := by decide +kernel
theorem dX12_stretch_44 : decode cX12_stretch 44 = .ok (.imul, 1) := by decide +kernel
theorem dX12_stretch_45 : decode cX12_stretch 45 = .ok (.iload_n 3, 1) := by decide +kernel
theorem dX12_stretch_46 : decode cX12_stretch 46 = .ok (.iadd, 1) := by decide +kernel
theorem dX12_stretch_47 : decode cX12_stretch 47 = .ok (.iconst 2, 1) := by decide +kernel
theorem dX12_stretch_48 : decode cX12_stretch 48 = .ok (.iadd, 1) := by decide +kernel
theorem dX12_stretch_49 : decode cX12_stretch 49 = .ok (.iconst 1, 1) := by decide +kernel
theorem dX12_stretch_50 : decode cX12_stretch 50 = .ok (.invokevirtual 320, 3) := by decide +kernel
theorem dX12_stretch_53 : decode cX12_stretch 53 = .ok (.ifCond .lt 7, 3) := by decide +kernel
theorem dX12_stretch_56 : decode cX12_stretch 56 = .ok (.iconst 1, 1) := by decide +kernel
theorem dX12_stretch_57 : decode cX12_stretch 57 = .ok (.goto 4, 3) := by decide +kernel
theorem dX12_stretch_60 : decode cX12_stretch 60 = .ok (.iconst 0, 1) := by decide +kernel
theorem dX12_stretch_61 : decode cX12_stretch 61 = .ok (.istore 4, 2) := by decide +kernel
theorem dX12_stretch_63 : decode cX12_stretch 63 = .ok (.iload 4, 2) := by decide +kernel
theorem dX12_stretch_65 : decode cX12_stretch 65 = .ok (.ifCond .ne 22, 3) := by decide +kernel
theorem dX12_stretch_68 : decode cX12_stretch 68 = .ok (.aload_n 0, 1) := by decide +kernel
theorem dX12_stretch_69 : decode cX12_stretch 69 = .ok (.iload_n 1, 1) := by decide +kernel
theorem dX12_stretch_70 : decode cX12_stretch 70 = .ok (.bipush 120, 2) := by decide +kernel
theorem dX12_stretch_72 : decode cX12_stretch 72 = .ok (.iload_n 1, 1) := by decide +kernel
theorem dX12_stretch_73 : decode cX12_stretch 73 = .ok (.imul, 1) := by decide +kernel
theorem dX12_stretch_74 : decode cX12_stretch 74 = .ok (.iload_n 3, 1) := by decide +kernel
theorem dX12_stretch_75 : decode cX12_stretch 75 = .ok (.iadd, 1) := by decide +kernel
theorem dX12_stretch_76 : decode cX12_stretch 76 = .ok (.iconst 2, 1) := by decide +kernel
theorem dX12_stretch_77 : decode cX12_stretch 77 = .ok (.iadd, 1) := by decide +kernel
theorem dX12_stretch_78 : decode cX12_stretch 78 = .ok (.iconst 0, 1) := by decide +kernel
theorem dX12_stretch_79 : decode cX12_stretch 79 = .ok (.invokevirtual 320, 3) := by decide +kernel
theorem dX12_stretch_82 : decode cX12_stretch 82 = .ok (.ifCond .ge 5, 3) := by decide +kernel
theorem dX12_stretch_85 : decode cX12_stretch 85 = .ok (.iconst (-1), 1) := by decide +kernel
theorem dX12_stretch_86 : decode cX12_stretch 86 = .ok (.ireturn, 1) := by decide +kernel
theorem dX12_stretch_87 : decode cX12_stretch 87 = .ok (.aload_n 0, 1) := by decide +kernel
theorem dX12_stretch_88 : decode cX12_stretch 88 = .ok (.iload_n 1, 1) := by decide +kernel
theorem dX12_stretch_89 : decode cX12_stretch 89 = .ok (.sipush 288, 3) := by decide +kernel
theorem dX12_stretch_92 : decode cX12_stretch 92 = .ok (.invokevirtual 191, 3) := by decide +kernel
theorem dX12_stretch_95 : decode cX12_stretch 95 = .ok (.aload_n 0, 1) := by decide +kernel
theorem dX12_stretch_96 : decode cX12_stretch 96 = .ok (.getfield 71, 3) := by decide +kernel
theorem dX12_stretch_99 : decode cX12_stretch 99 = .ok (.ldc 142, 2) := by decide +kernel
theorem dX12_stretch_101 : decode cX12_stretch 101 = .ok (.iload_n 3, 1) := by decide +kernel
theorem dX12_stretch_102 : decode cX12_stretch 102 = .ok (.iadd, 1) := by decide +kernel
theorem dX12_stretch_103 : decode cX12_stretch 103 = .ok (.iconst 4, 1) := by decide +kernel
theorem dX12_stretch_104 : decode cX12_stretch 104 = .ok (.iadd, 1) := by decide +kernel
theorem dX12_stretch_105 : decode cX12_stretch 105 = .ok (.dup2, 1) := by decide +kernel
theorem dX12_stretch_106 : decode cX12_stretch 106 = .ok (.iaload, 1) := by decide +kernel
theorem dX12_stretch_107 : decode cX12_stretch 107 = .ok (.iload 4, 2) := by decide +kernel
theorem dX12_stretch_109 : decode cX12_stretch 109 = .ok (.ifCond .eq 7, 3) := by decide +kernel
theorem dX12_stretch_112 : decode cX12_stretch 112 = .ok (.iconst 1, 1) := by decide +kernel
theorem dX12_stretch_113 : decode cX12_stretch 113 = .ok (.goto 4, 3) := by decide +kernel
theorem dX12_stretch_116 : decode cX12_stretch 116 = .ok (.iconst 0, 1) := by decide +kernel
theorem dX12_stretch_117 : decode cX12_stretch 117 = .ok (.iadd, 1) := by decide +kernel
theorem dX12_stretch_118 : decode cX12_stretch 118 = .ok (.iastore, 1) := by decide +kernel
theorem dX12_stretch_119 : decode cX12_stretch 119 = .ok (.aload_n 0, 1) := by decide +kernel
theorem dX12_stretch_120 : decode cX12_stretch 120 = .ok (.getfield 68, 3) := by decide +kernel
theorem dX12_stretch_123 : decode cX12_stretch 123 = .ok (.ldc 142, 2) := by decide +kernel
theorem dX12_stretch_125 : decode cX12_stretch 125 = .ok (.iload_n 3, 1) := by decide +kernel
theorem dX12_stretch_126 : decode cX12_stretch 126 = .ok (.iadd, 1) := by decide +kernel
theorem dX12_stretch_127 : decode cX12_stretch 127 = .ok (.iconst 4, 1) := by decide +kernel
theorem dX12_stretch_128 : decode cX12_stretch 128 = .ok (.iadd, 1) := by decide +kernel
theorem dX12_stretch_129 : decode cX12_stretch 129 = .ok (.dup2, 1) := by decide +kernel
theorem dX12_stretch_130 : decode cX12_stretch 130 = .ok (.iaload, 1) := by decide +kernel
theorem dX12_stretch_131 : decode cX12_stretch 131 = .ok (.iload 4, 2) := by decide +kernel
theorem dX12_stretch_133 : decode cX12_stretch 133 = .ok (.ifCond .eq 7, 3) := by decide +kernel
theorem dX12_stretch_136 : decode cX12_stretch 136 = .ok (.iconst 0, 1) := by decide +kernel
theorem dX12_stretch_137 : decode cX12_stretch 137 = .ok (.goto 4, 3) := by decide +kernel
theorem dX12_stretch_140 : decode cX12_stretch 140 = .ok (.iconst 1, 1) := by decide +kernel
theorem dX12_stretch_141 : decode cX12_stretch 141 = .ok (.iadd, 1) := by decide +kernel
theorem dX12_stretch_142 : decode cX12_stretch 142 = .ok (.iastore, 1) := by decide +kernel
theorem dX12_stretch_143 : decode cX12_stretch 143 = .ok (.aload_n 0, 1) := by decide +kernel
theorem dX12_stretch_144 : decode cX12_stretch 144 = .ok (.invokevirtual 342, 3) := by decide +kernel
theorem dX12_stretch_147 : decode cX12_stretch 147 = .ok (.aload_n 0, 1) := by decide +kernel
theorem dX12_stretch_148 : decode cX12_stretch 148 = .ok (.iload_n 1, 1) := by decide +kernel
theorem dX12_stretch_149 : decode cX12_stretch 149 = .ok (.invokevirtual 207, 3) := by decide +kernel
theorem dX12_stretch_152 : decode cX12_stretch 152 = .ok (.aload_n 0, 1) := by decide +kernel
theorem dX12_stretch_153 : decode cX12_stretch 153 = .ok (.invokevirtual 345, 3) := by decide +kernel
theorem dX12_stretch_156 : decode cX12_stretch 156 = .ok (.ireturn, 1) := by decide +kernel
theorem dX12_changed_0 : decode cX12_changed 0 = .ok (.aload_n 0, 1) := by decide +kernel
theorem dX12_changed_1 : decode cX12_changed 1 = .ok (.iconst 0, 1) := by decide +kernel
theorem dX12_changed_2 : decode cX12_changed 2 = .ok (.putfield 1, 3) := by decide +kernel
theorem dX12_changed_5 : decode cX12_changed 5 = .ok (.iload_n 1, 1) := by decide +kernel
theorem dX12_changed_6 : decode cX12_changed 6 = .ok (.ifCond .lt 20, 3) := by decide +kernel
theorem dX12_changed_9 : decode cX12_changed 9 = .ok (.iload_n 1, 1) := by decide +kernel
theorem dX12_changed_10 : decode cX12_changed 10 = .ok (.aload_n 0, 1) := by decide +kernel
theorem dX12_changed_11 : decode cX12_changed 11 = .ok (.getfield 339, 3) := by decide +kernel
theorem dX12_changed_14 : decode cX12_changed 14 = .ok (.if_icmp .ge 12, 3) := by decide +kernel
theorem dX12_changed_17 : decode cX12_changed 17 = .ok (.iload_n 2, 1) := by decide +kernel
theorem dX12_changed_18 : decode cX12_changed 18 = .ok (.ifCond .lt 8, 3) := by decide +kernel
theorem dX12_changed_21 : decode cX12_changed 21 = .ok (.iload_n 2, 1) := by decide +kernel
theorem dX12_changed_22 : decode cX12_changed 22 = .ok (.iconst 4, 1) := by decide +kernel
theorem dX12_changed_23 : decode cX12_changed 23 = .ok (.if_icmp .le 7, 3) := by decide +kernel
theorem dX12_changed_26 : decode cX12_changed 26 = .ok (.iconst (-1), 1) := by decide +kernel
theorem dX12_changed_27 : decode cX12_changed 27 = .ok (.goto 13, 3) := by decide +kernel
theorem dX12_changed_30 : decode cX12_changed 30 = .ok (.aload_n 0, 1) := by decide +kernel
theorem dX12_changed_31 : decode cX12_changed 31 = .ok (.getfield 139, 3) := by decide +kernel
theorem dX12_changed_34 : decode cX12_changed 34 = .ok (.iconst 5, 1) := by decide +kernel
theorem dX12_changed_35 : decode cX12_changed 35 = .ok (.iload_n 1, 1) := by decide +kernel
theorem dX12_changed_36 : decode cX12_changed 36 = .ok (.imul, 1) := by decide +kernel
theorem dX12_changed_37 : decode cX12_changed 37 = .ok (.iload_n 2, 1) := by decide +kernel
theorem dX12_changed_38 : decode cX12_changed 38 = .ok (.iadd, 1) := by decide +kernel
theorem dX12_changed_39 : decode cX12_changed 39 = .ok (.iaload, 1) := by decide +kernel
theorem dX12_changed_40 : decode cX12_changed 40 = .ok (.ireturn, 1) := by decide +kernel
theorem dX12_undo_0 : decode cX12_undo 0 = .ok (.aload_n 0, 1) := by decide +kernel
theorem dX12_undo_1 : decode cX12_undo 1 = .ok (.iconst 0, 1) := by decide +kernel
theorem dX12_undo_2 : decode cX12_undo 2 = .ok (.putfield 1, 3) := by decide +kernel
theorem dX12_undo_5 : decode cX12_undo 5 = .ok (.aload_n 0, 1) := by decide +kernel
theorem dX12_undo_6 : decode cX12_undo 6 = .ok (.getfield 188, 3) := by decide +kernel
theorem dX12_undo_9 : decode cX12_undo 9 = .ok (.ifCond .ne 5, 3) := by decide +kernel
theorem dX12_undo_12 : decode cX12_undo 12 = .ok (.iconst (-1), 1) := by decide +kernel
theorem dX12_undo_13 : decode cX12_undo 13 = .ok (.ireturn, 1) := by decide +kernel
theorem dX12_undo_14 : decode cX12_undo 14 = .ok (.aload_n 0, 1) := by decide +kernel
theorem dX12_undo_15 : decode cX12_undo 15 = .ok (.dup, 1) := by decide +kernel
theorem dX12_undo_16 : decode cX12_undo 16 = .ok (.getfield 188, 3) := by decide +kernel
theorem dX12_undo_19 : decode cX12_undo 19 = .ok (.iconst 1, 1) := by decide +kernel
theorem dX12_undo_20 : decode cX12_undo 20 = .ok (.isub, 1) := by decide +kernel
theorem dX12_undo_21 : decode cX12_undo 21 = .ok (.putfield 188, 3) := by decide +kernel
theorem dX12_undo_24 : decode cX12_undo 24 = .ok (.aload_n 0, 1) := by decide +kernel
theorem dX12_undo_25 : decode cX12_undo 25 = .ok (.invokevirtual 342, 3) := by decide +kernel
theorem dX12_undo_28 : decode cX12_undo 28 = .ok (.aload_n 0, 1) := by decide +kernel
theorem dX12_undo_29 : decode cX12_undo 29 = .ok (.sipush 289, 3) := by decide +kernel
theorem dX12_undo_32 : decode cX12_undo 32 = .ok (.aload_n 0, 1) := by decide +kernel
theorem dX12_undo_33 : decode cX12_undo 33 = .ok (.getfield 188, 3) := by decide +kernel
theorem dX12_undo_36 : decode cX12_undo 36 = .ok (.iadd, 1) := by decide +kernel
theorem dX12_undo_37 : decode cX12_undo 37 = .ok (.aload_n 0, 1) := by decide +kernel
theorem dX12_undo_38 : decode cX12_undo 38 = .ok (.getfield 93, 3) := by decide +kernel
theorem dX12_undo_41 : decode cX12_undo 41 = .ok (.aload_n 0, 1) := by decide +kernel
theorem dX12_undo_42 : decode cX12_undo 42 = .ok (.getfield 188, 3) := by decide +kernel
theorem dX12_undo_45 : decode cX12_undo 45 = .ok (.iaload, 1) := by decide +kernel
theorem dX12_undo_46 : decode cX12_undo 46 = .ok (.invokevirtual 191, 3) := by decide +kernel
theorem dX12_undo_49 : decode cX12_undo 49 = .ok (.aload_n 0, 1) := by decide +kernel
theorem dX12_undo_50 : decode cX12_undo 50 = .ok (.invokevirtual 195, 3) := by decide +kernel
theorem dX12_undo_53 : decode cX12_undo 53 = .ok (.aload_n 0, 1) := by decide +kernel
theorem dX12_undo_54 : decode cX12_undo 54 = .ok (.invokevirtual 345, 3) := by decide +kernel
theorem dX12_undo_57 : decode cX12_undo 57 = .ok (.ireturn, 1) := by decide +kernel
theorem dX12_readMany_0 : decode cX12_readMany 0 = .ok (.iconst 0, 1) := by decide +kernel
theorem dX12_readMany_1 : decode cX12_readMany 1 = .ok (.istore_n 2, 1) := by decide +kernel
theorem dX12_readMany_2 : decode cX12_readMany 2 = .ok (.iconst 0, 1) := by decide +kernel
theorem dX12_readMany_3 : decode cX12_readMany 3 = .ok (.istore_n 3, 1) := by decide +kernel
theorem dX12_readMany_4 : decode cX12_readMany 4 = .ok (.iload_n 3, 1) := by decide +kernel
theorem dX12_readMany_5 : decode cX12_readMany 5 = .ok (.sipush 288, 3) := by decide +kernel
theorem dX12_readMany_8 : decode cX12_readMany 8 = .ok (.if_icmp .ge 29, 3) := by decide +kernel
theorem dX12_readMany_11 : decode cX12_readMany 11 = .ok (.iload_n 2, 1) := by decide +kernel
theorem dX12_readMany_12 : decode cX12_readMany 12 = .ok (.aload_n 0, 1) := by decide +kernel
theorem dX12_readMany_13 : decode cX12_readMany 13 = .ok (.getfield 96, 3) := by decide +kernel
theorem dX12_readMany_16 : decode cX12_readMany 16 = .ok (.iload_n 1, 1) := by decide +kernel
theorem dX12_readMany_17 : decode cX12_readMany 17 = .ok (.iload_n 3, 1) := by decide +kernel
theorem dX12_readMany_18 : decode cX12_readMany 18 = .ok (.invokestatic 222, 3) := by decide +kernel
theorem dX12_readMany_21 : decode cX12_readMany 21 = .ok (.ifCond .eq 7, 3) := by decide +kernel
theorem dX12_readMany_24 : decode cX12_readMany 24 = .ok (.iconst 1, 1) := by decide +kernel
theorem dX12_readMany_25 : decode cX12_readMany 25 = .ok (.goto 4, 3) := by decide +kernel
theorem dX12_readMany_28 : decode cX12_readMany 28 = .ok (.iconst 0, 1) := by decide +kernel
theorem dX12_readMany_29 : decode cX12_readMany 29 = .ok (.iadd, 1) := by decide +kernel
theorem dX12_readMany_30 : decode cX12_readMany 30 = .ok (.istore_n 2, 1) := by decide +kernel
theorem dX12_readMany_31 : decode cX12_readMany 31 = .ok (.iinc 3 1, 3) := by decide +kernel
theorem dX12_readMany_34 : decode cX12_readMany 34 = .ok (.goto (-30), 3) := by decide +kernel
theorem dX12_readMany_37 : decode cX12_readMany 37 = .ok (.iload_n 2, 1) := by decide +kernel
theorem dX12_readMany_38 : decode cX12_readMany 38 = .ok (.ireturn, 1) := by decide +kernel
theorem dX12_readers_0 : decode cX12_readers 0 = .ok (.iconst 0, 1) := by decide +kernel
theorem dX12_readers_1 : decode cX12_readers 1 = .ok (.istore_n 2, 1) := by decide +kernel
theorem dX12_readers_2 : decode cX12_readers 2 = .ok (.iconst 0, 1) := by decide +kernel
theorem dX12_readers_3 : decode cX12_readers 3 = .ok (.istore_n 3, 1) := by decide +kernel
theorem dX12_readers_4 : decode cX12_readers 4 = .ok (.iload_n 3, 1) := by decide +kernel
theorem dX12_readers_5 : decode cX12_readers 5 = .ok (.sipush 288, 3) := by decide +kernel
theorem dX12_readers_8 : decode cX12_readers 8 = .ok (.if_icmp .ge 29, 3) := by decide +kernel
theorem dX12_readers_11 : decode cX12_readers 11 = .ok (.iload_n 2, 1) := by decide +kernel
theorem dX12_readers_12 : decode cX12_readers 12 = .ok (.aload_n 0, 1) := by decide +kernel
theorem dX12_readers_13 : decode cX12_readers 13 = .ok (.getfield 96, 3) := by decide +kernel
theorem dX12_readers_16 : decode cX12_readers 16 = .ok (.iload_n 3, 1) := by decide +kernel
theorem dX12_readers_17 : decode cX12_readers 17 = .ok (.iload_n 1, 1) := by decide +kernel
theorem dX12_readers_18 : decode cX12_readers 18 = .ok (.invokestatic 222, 3) := by decide +kernel
theorem dX12_readers_21 : decode cX12_readers 21 = .ok (.ifCond .eq 7, 3) := by decide +kernel
theorem dX12_readers_24 : decode cX12_readers 24 = .ok (.iconst 1, 1) := by decide +kernel
theorem dX12_readers_25 : decode cX12_readers 25 = .ok (.goto 4, 3) := by decide +kernel
theorem dX12_readers_28 : decode cX12_readers 28 = .ok (.iconst 0, 1) := by decide +kernel
theorem dX12_readers_29 : decode cX12_readers 29 = .ok (.iadd, 1) := by decide +kernel
theorem dX12_readers_30 : decode cX12_readers 30 = .ok (.istore_n 2, 1) := by decide +kernel
theorem dX12_readers_31 : decode cX12_readers 31 = .ok (.iinc 3 1, 3) := by decide +kernel
theorem dX12_readers_34 : decode cX12_readers 34 = .ok (.goto (-30), 3) := by decide +kernel
theorem dX12_readers_37 : decode cX12_readers 37 = .ok (.iload_n 2, 1) := by decide +kernel
theorem dX12_readers_38 : decode cX12_readers 38 = .ok (.ireturn, 1) := by decide +kernel
theorem dX12_cell_0 : decode cX12_cell 0 = .ok (.aload_n 0, 1) := by decide +kernel
theorem dX12_cell_1 : decode cX12_cell 1 = .ok (.iload_n 1, 1) := by decide +kernel
theorem dX12_cell_2 : decode cX12_cell 2 = .ok (.invokestatic 198, 3) := by decide +kernel
theorem dX12_cell_5 : decode cX12_cell 5 = .ok (.ifCond .eq 17, 3) := by decide +kernel
theorem dX12_cell_8 : decode cX12_cell 8 = .ok (.iload_n 2, 1) := by decide +kernel
theorem dX12_cell_9 : decode cX12_cell 9 = .ok (.ifCond .lt 13, 3) := by decide +kernel
theorem dX12_cell_12 : decode cX12_cell 12 = .ok (.iload_n 2, 1) := by decide +kernel
theorem dX12_cell_13 : decode cX12_cell 13 = .ok (.bipush 10, 2) := by decide +kernel
theorem dX12_cell_15 : decode cX12_cell 15 = .ok (.if_icmp .gt 7, 3) := by decide +kernel
theorem dX12_cell_18 : decode cX12_cell 18 = .ok (.iconst 0, 1) := by decide +kernel
theorem dX12_cell_19 : decode cX12_cell 19 = .ok (.goto 4, 3) := by decide +kernel
theorem dX12_cell_22 : decode cX12_cell 22 = .ok (.iconst 1, 1) := by decide +kernel
theorem dX12_cell_23 : decode cX12_cell 23 = .ok (.putfield 1, 3) := by decide +kernel
theorem dX12_cell_26 : decode cX12_cell 26 = .ok (.aload_n 0, 1) := by decide +kernel
theorem dX12_cell_27 : decode cX12_cell 27 = .ok (.getfield 1, 3) := by decide +kernel
theorem dX12_cell_30 : decode cX12_cell 30 = .ok (.ifCond .le 5, 3) := by decide +kernel
theorem dX12_cell_33 : decode cX12_cell 33 = .ok (.iconst 0, 1) := by decide +kernel
theorem dX12_cell_34 : decode cX12_cell 34 = .ok (.ireturn, 1) := by decide +kernel
theorem dX12_cell_35 : decode cX12_cell 35 = .ok (.iload_n 2, 1) := by decide +kernel
theorem dX12_cell_36 : decode cX12_cell 36 = .ok (.tableswitch 124 0 9 #[56, 63, 70, 77, 84, 84, 84, 97, 112, 118], 56) := by decide +kernel
theorem dX12_cell_92 : decode cX12_cell 92 = .ok (.aload_n 0, 1) := by decide +kernel
theorem dX12_cell_93 : decode cX12_cell 93 = .ok (.getfield 80, 3) := by decide +kernel
theorem dX12_cell_96 : decode cX12_cell 96 = .ok (.iload_n 1, 1) := by decide +kernel
theorem dX12_cell_97 : decode cX12_cell 97 = .ok (.iaload, 1) := by decide +kernel
theorem dX12_cell_98 : decode cX12_cell 98 = .ok (.ireturn, 1) := by decide +kernel
theorem dX12_cell_99 : decode cX12_cell 99 = .ok (.aload_n 0, 1) := by decide +kernel
theorem dX12_cell_100 : decode cX12_cell 100 = .ok (.getfield 102, 3) := by decide +kernel
theorem dX12_cell_103 : decode cX12_cell 103 = .ok (.iload_n 1, 1) := by decide +kernel
theorem dX12_cell_104 : decode cX12_cell 104 = .ok (.iaload, 1) := by decide +kernel
theorem dX12_cell_105 : decode cX12_cell 105 = .ok (.ireturn, 1) := by decide +kernel
theorem dX12_cell_106 : decode cX12_cell 106 = .ok (.aload_n 0, 1) := by decide +kernel
theorem dX12_cell_107 : decode cX12_cell 107 = .ok (.getfield 105, 3) := by decide +kernel
theorem dX12_cell_110 : decode cX12_cell 110 = .ok (.iload_n 1, 1) := by decide +kernel
theorem dX12_cell_111 : decode cX12_cell 111 = .ok (.iaload, 1) := by decide +kernel
theorem dX12_cell_112 : decode cX12_cell 112 = .ok (.ireturn, 1) := by decide +kernel
theorem dX12_cell_113 : decode cX12_cell 113 = .ok (.aload_n 0, 1) := by decide +kernel
theorem dX12_cell_114 : decode cX12_cell 114 = .ok (.getfield 117, 3) := by decide +kernel
theorem dX12_cell_117 : decode cX12_cell 117 = .ok (.iload_n 1, 1) := by decide +kernel
theorem dX12_cell_118 : decode cX12_cell 118 = .ok (.iaload, 1) := by decide +kernel
theorem dX12_cell_119 : decode cX12_cell 119 = .ok (.ireturn, 1) := by decide +kernel
theorem dX12_cell_120 : decode cX12_cell 120 = .ok (.aload_n 0, 1) := by decide +kernel
theorem dX12_cell_121 : decode cX12_cell 121 = .ok (.getfield 108, 3) := by decide +kernel
theorem dX12_cell_124 : decode cX12_cell 124 = .ok (.iconst 3, 1) := by decide +kernel
theorem dX12_cell_125 : decode cX12_cell 125 = .ok (.iload_n 1, 1) := by decide +kernel
theorem dX12_cell_126 : decode cX12_cell 126 = .ok (.imul, 1) := by decide +kernel
theorem dX12_cell_127 : decode cX12_cell 127 = .ok (.iload_n 2, 1) := by decide +kernel
theorem dX12_cell_128 : decode cX12_cell 128 = .ok (.iadd, 1) := by decide +kernel
theorem dX12_cell_129 : decode cX12_cell 129 = .ok (.iconst 4, 1) := by decide +kernel
theorem dX12_cell_130 : decode cX12_cell 130 = .ok (.isub, 1) := by decide +kernel
theorem dX12_cell_131 : decode cX12_cell 131 = .ok (.iaload, 1) := by decide +kernel
theorem dX12_cell_132 : decode cX12_cell 132 = .ok (.ireturn, 1) := by decide +kernel
theorem dX12_cell_133 : decode cX12_cell 133 = .ok (.aload_n 0, 1) := by decide +kernel
theorem dX12_cell_134 : decode cX12_cell 134 = .ok (.getfield 114, 3) := by decide +kernel
theorem dX12_cell_137 : decode cX12_cell 137 = .ok (.iload_n 1, 1) := by decide +kernel
theorem dX12_cell_138 : decode cX12_cell 138 = .ok (.baload, 1) := by decide +kernel
theorem dX12_cell_139 : decode cX12_cell 139 = .ok (.ifCond .eq 7, 3) := by decide +kernel
theorem dX12_cell_142 : decode cX12_cell 142 = .ok (.iconst 1, 1) := by decide +kernel
theorem dX12_cell_143 : decode cX12_cell 143 = .ok (.goto 4, 3) := by decide +kernel
theorem dX12_cell_146 : decode cX12_cell 146 = .ok (.iconst 0, 1) := by decide +kernel
theorem dX12_cell_147 : decode cX12_cell 147 = .ok (.ireturn, 1) := by decide +kernel
theorem dX12_cell_148 : decode cX12_cell 148 = .ok (.aload_n 0, 1) := by decide +kernel
theorem dX12_cell_149 : decode cX12_cell 149 = .ok (.iload_n 1, 1) := by decide +kernel
theorem dX12_cell_150 : decode cX12_cell 150 = .ok (.invokevirtual 351, 3) := by decide +kernel
theorem dX12_cell_153 : decode cX12_cell 153 = .ok (.ireturn, 1) := by decide +kernel
theorem dX12_cell_154 : decode cX12_cell 154 = .ok (.aload_n 0, 1) := by decide +kernel
theorem dX12_cell_155 : decode cX12_cell 155 = .ok (.iload_n 1, 1) := by decide +kernel
theorem dX12_cell_156 : decode cX12_cell 156 = .ok (.invokevirtual 336, 3) := by decide +kernel
theorem dX12_cell_159 : decode cX12_cell 159 = .ok (.ireturn, 1) := by decide +kernel
theorem dX12_cell_160 : decode cX12_cell 160 = .ok (.aload_n 0, 1) := by decide +kernel
theorem dX12_cell_161 : decode cX12_cell 161 = .ok (.getfield 89, 3) := by decide +kernel
theorem dX12_cell_164 : decode cX12_cell 164 = .ok (.iload_n 1, 1) := by decide +kernel
theorem dX12_cell_165 : decode cX12_cell 165 = .ok (.baload, 1) := by decide +kernel
theorem dX12_cell_166 : decode cX12_cell 166 = .ok (.ifCond .eq 7, 3) := by decide +kernel
theorem dX12_cell_169 : decode cX12_cell 169 = .ok (.iconst 1, 1) := by decide +kernel
theorem dX12_cell_170 : decode cX12_cell 170 = .ok (.goto 4, 3) := by decide +kernel
theorem dX12_cell_173 : decode cX12_cell 173 = .ok (.iconst 0, 1) := by decide +kernel
theorem dX12_cell_174 : decode cX12_cell 174 = .ok (.ireturn, 1) := by decide +kernel
theorem dX12_thrown_0 : decode cX12_thrown 0 = .ok (.aload_n 0, 1) := by decide +kernel
theorem dX12_thrown_1 : decode cX12_thrown 1 = .ok (.getfield 1, 3) := by decide +kernel
theorem dX12_thrown_4 : decode cX12_thrown 4 = .ok (.ireturn, 1) := by decide +kernel
theorem dX12_ways_0 : decode cX12_ways 0 = .ok (.aload_n 0, 1) := by decide +kernel
theorem dX12_ways_1 : decode cX12_ways 1 = .ok (.iconst 0, 1) := by decide +kernel
theorem dX12_ways_2 : decode cX12_ways 2 = .ok (.putfield 1, 3) := by decide +kernel
theorem dX12_ways_5 : decode cX12_ways 5 = .ok (.iload_n 1, 1) := by decide +kernel
theorem dX12_ways_6 : decode cX12_ways 6 = .ok (.invokestatic 198, 3) := by decide +kernel
theorem dX12_ways_9 : decode cX12_ways 9 = .ok (.ifCond .eq 19, 3) := by decide +kernel
theorem dX12_ways_12 : decode cX12_ways 12 = .ok (.iload_n 2, 1) := by decide +kernel
theorem dX12_ways_13 : decode cX12_ways 13 = .ok (.invokestatic 198, 3) := by decide +kernel
theorem dX12_ways_16 : decode cX12_ways 16 = .ok (.ifCond .eq 12, 3) := by decide +kernel
theorem dX12_ways_19 : decode cX12_ways 19 = .ok (.aload_n 0, 1) := by decide +kernel
theorem dX12_ways_20 : decode cX12_ways 20 = .ok (.getfield 114, 3) := by decide +kernel
theorem dX12_ways_23 : decode cX12_ways 23 = .ok (.iload_n 2, 1) := by decide +kernel
theorem dX12_ways_24 : decode cX12_ways 24 = .ok (.baload, 1) := by decide +kernel
theorem dX12_ways_25 : decode cX12_ways 25 = .ok (.ifCond .ne 5, 3) := by decide +kernel
theorem dX12_ways_28 : decode cX12_ways 28 = .ok (.iconst (-1), 1) := by decide +kernel
theorem dX12_ways_29 : decode cX12_ways 29 = .ok (.ireturn, 1) := by decide +kernel
theorem dX12_ways_30 : decode cX12_ways 30 = .ok (.aload_n 0, 1) := by decide +kernel
theorem dX12_ways_31 : decode cX12_ways 31 = .ok (.getfield 121, 3) := by decide +kernel
theorem dX12_ways_34 : decode cX12_ways 34 = .ok (.sipush 288, 3) := by decide +kernel
theorem dX12_ways_37 : decode cX12_ways 37 = .ok (.iload_n 2, 1) := by decide +kernel
theorem dX12_ways_38 : decode cX12_ways 38 = .ok (.imul, 1) := by decide +kernel
theorem dX12_ways_39 : decode cX12_ways 39 = .ok (.iload_n 1, 1) := by decide +kernel
theorem dX12_ways_40 : decode cX12_ways 40 = .ok (.iadd, 1) := by decide +kernel
theorem dX12_ways_41 : decode cX12_ways 41 = .ok (.iaload, 1) := by decide +kernel
theorem dX12_ways_42 : decode cX12_ways 42 = .ok (.istore_n 3, 1) := by decide +kernel
theorem dX12_ways_43 : decode cX12_ways 43 = .ok (.iload_n 3, 1) := by decide +kernel
theorem dX12_ways_44 : decode cX12_ways 44 = .ok (.bipush 9, 2) := by decide +kernel
theorem dX12_ways_46 : decode cX12_ways 46 = .ok (.if_icmp .le 8, 3) := by decide +kernel
theorem dX12_ways_49 : decode cX12_ways 49 = .ok (.bipush 9, 2) := by decide +kernel
theorem dX12_ways_51 : decode cX12_ways 51 = .ok (.goto 4, 3) := by decide +kernel
theorem dX12_ways_54 : decode cX12_ways 54 = .ok (.iload_n 3, 1) := by decide +kernel
theorem dX12_ways_55 : decode cX12_ways 55 = .ok (.ireturn, 1) := by decide +kernel
theorem dX12_count_0 : decode cX12_count 0 = .ok (.aload_n 0, 1) := by decide +kernel
theorem dX12_count_1 : decode cX12_count 1 = .ok (.iconst 0, 1) := by decide +kernel
theorem dX12_count_2 : decode cX12_count 2 = .ok (.putfield 1, 3) := by decide +kernel
theorem dX12_count_5 : decode cX12_count 5 = .ok (.iconst 0, 1) := by decide +kernel
theorem dX12_count_6 : decode cX12_count 6 = .ok (.istore_n 2, 1) := by decide +kernel
theorem dX12_count_7 : decode cX12_count 7 = .ok (.iconst 0, 1) := by decide +kernel
theorem dX12_count_8 : decode cX12_count 8 = .ok (.istore_n 3, 1) := by decide +kernel
theorem dX12_count_9 : decode cX12_count 9 = .ok (.iconst 0, 1) := by decide +kernel
theorem dX12_count_10 : decode cX12_count 10 = .ok (.istore 4, 2) := by decide +kernel
theorem dX12_count_12 : decode cX12_count 12 = .ok (.iconst 0, 1) := by decide +kernel
theorem dX12_count_13 : decode cX12_count 13 = .ok (.istore 5, 2) := by decide +kernel
theorem dX12_count_15 : decode cX12_count 15 = .ok (.iconst 0, 1) := by decide +kernel
theorem dX12_count_16 : decode cX12_count 16 = .ok (.istore 6, 2) := by decide +kernel
theorem dX12_count_18 : decode cX12_count 18 = .ok (.iload 6, 2) := by decide +kernel
theorem dX12_count_20 : decode cX12_count 20 = .ok (.sipush 288, 3) := by decide +kernel
theorem dX12_count_23 : decode cX12_count 23 = .ok (.if_icmp .ge 100, 3) := by decide +kernel
theorem dX12_count_26 : decode cX12_count 26 = .ok (.iload_n 2, 1) := by decide +kernel
theorem dX12_count_27 : decode cX12_count 27 = .ok (.aload_n 0, 1) := by decide +kernel
theorem dX12_count_28 : decode cX12_count 28 = .ok (.getfield 80, 3) := by decide +kernel
theorem dX12_count_31 : decode cX12_count 31 = .ok (.iload 6, 2) := by decide +kernel
theorem dX12_count_33 : decode cX12_count 33 = .ok (.iaload, 1) := by decide +kernel
theorem dX12_count_34 : decode cX12_count 34 = .ok (.iconst 1, 1) := by decide +kernel
theorem dX12_count_35 : decode cX12_count 35 = .ok (.if_icmp .ne 7, 3) := by decide +kernel
theorem dX12_count_38 : decode cX12_count 38 = .ok (.iconst 1, 1) := by decide +kernel
theorem dX12_count_39 : decode cX12_count 39 = .ok (.goto 4, 3) := by decide +kernel
theorem dX12_count_42 : decode cX12_count 42 = .ok (.iconst 0, 1) := by decide +kernel
theorem dX12_count_43 : decode cX12_count 43 = .ok (.iadd, 1) := by decide +kernel
theorem dX12_count_44 : decode cX12_count 44 = .ok (.istore_n 2, 1) := by decide +kernel
theorem dX12_count_45 : decode cX12_count 45 = .ok (.iload_n 3, 1) := by decide +kernel
theorem dX12_count_46 : decode cX12_count 46 = .ok (.aload_n 0, 1) := by decide +kernel
theorem dX12_count_47 : decode cX12_count 47 = .ok (.getfield 80, 3) := by decide +kernel
theorem dX12_count_50 : decode cX12_count 50 = .ok (.iload 6, 2) := by decide +kernel
theorem dX12_count_52 : decode cX12_count 52 = .ok (.iaload, 1) := by decide +kernel
theorem dX12_count_53 : decode cX12_count 53 = .ok (.iconst 2, 1) := by decide +kernel
theorem dX12_count_54 : decode cX12_count 54 = .ok (.if_icmp .ne 7, 3) := by decide +kernel
theorem dX12_count_57 : decode cX12_count 57 = .ok (.iconst 1, 1) := by decide +kernel
theorem dX12_count_58 : decode cX12_count 58 = .ok (.goto 4, 3) := by decide +kernel
theorem dX12_count_61 : decode cX12_count 61 = .ok (.iconst 0, 1) := by decide +kernel
theorem dX12_count_62 : decode cX12_count 62 = .ok (.iadd, 1) := by decide +kernel
theorem dX12_count_63 : decode cX12_count 63 = .ok (.istore_n 3, 1) := by decide +kernel
theorem dX12_count_64 : decode cX12_count 64 = .ok (.iload 4, 2) := by decide +kernel
theorem dX12_count_66 : decode cX12_count 66 = .ok (.aload_n 0, 1) := by decide +kernel
theorem dX12_count_67 : decode cX12_count 67 = .ok (.getfield 80, 3) := by decide +kernel
theorem dX12_count_70 : decode cX12_count 70 = .ok (.iload 6, 2) := by decide +kernel
theorem dX12_count_72 : decode cX12_count 72 = .ok (.iaload, 1) := by decide +kernel
theorem dX12_count_73 : decode cX12_count 73 = .ok (.iconst 2, 1) := by decide +kernel
theorem dX12_count_74 : decode cX12_count 74 = .ok (.if_icmp .ne 19, 3) := by decide +kernel
theorem dX12_count_77 : decode cX12_count 77 = .ok (.aload_n 0, 1) := by decide +kernel
theorem dX12_count_78 : decode cX12_count 78 = .ok (.getfield 117, 3) := by decide +kernel
theorem dX12_count_81 : decode cX12_count 81 = .ok (.iload 6, 2) := by decide +kernel
theorem dX12_count_83 : decode cX12_count 83 = .ok (.iaload, 1) := by decide +kernel
theorem dX12_count_84 : decode cX12_count 84 = .ok (.iload 6, 2) := by decide +kernel
theorem dX12_count_86 : decode cX12_count 86 = .ok (.if_icmp .ne 7, 3) := by decide +kernel
theorem dX12_count_89 : decode cX12_count 89 = .ok (.iconst 1, 1) := by decide +kernel
theorem dX12_count_90 : decode cX12_count 90 = .ok (.goto 4, 3) := by decide +kernel
theorem dX12_count_93 : decode cX12_count 93 = .ok (.iconst 0, 1) := by decide +kernel
theorem dX12_count_94 : decode cX12_count 94 = .ok (.iadd, 1) := by decide +kernel
theorem dX12_count_95 : decode cX12_count 95 = .ok (.istore 4, 2) := by decide +kernel
theorem dX12_count_97 : decode cX12_count 97 = .ok (.iload 5, 2) := by decide +kernel
theorem dX12_count_99 : decode cX12_count 99 = .ok (.aload_n 0, 1) := by decide +kernel
theorem dX12_count_100 : decode cX12_count 100 = .ok (.getfield 105, 3) := by decide +kernel
theorem dX12_count_103 : decode cX12_count 103 = .ok (.iload 6, 2) := by decide +kernel
theorem dX12_count_105 : decode cX12_count 105 = .ok (.iaload, 1) := by decide +kernel
theorem dX12_count_106 : decode cX12_count 106 = .ok (.ifCond .le 7, 3) := by decide +kernel
theorem dX12_count_109 : decode cX12_count 109 = .ok (.iconst 1, 1) := by decide +kernel
theorem dX12_count_110 : decode cX12_count 110 = .ok (.goto 4, 3) := by decide +kernel
theorem dX12_count_113 : decode cX12_count 113 = .ok (.iconst 0, 1) := by decide +kernel
theorem dX12_count_114 : decode cX12_count 114 = .ok (.iadd, 1) := by decide +kernel
theorem dX12_count_115 : decode cX12_count 115 = .ok (.istore 5, 2) := by decide +kernel
theorem dX12_count_117 : decode cX12_count 117 = .ok (.iinc 6 1, 3) := by decide +kernel
theorem dX12_count_120 : decode cX12_count 120 = .ok (.goto (-102), 3) := by decide +kernel
theorem dX12_count_123 : decode cX12_count 123 = .ok (.iload_n 1, 1) := by decide +kernel
theorem dX12_count_124 : decode cX12_count 124 = .ok (.ifCond .ne 7, 3) := by decide +kernel
theorem dX12_count_127 : decode cX12_count 127 = .ok (.iload_n 2, 1) := by decide +kernel
theorem dX12_count_128 : decode cX12_count 128 = .ok (.goto 57, 3) := by decide +kernel
theorem dX12_count_131 : decode cX12_count 131 = .ok (.iload_n 1, 1) := by decide +kernel
theorem dX12_count_132 : decode cX12_count 132 = .ok (.iconst 1, 1) := by decide +kernel
theorem dX12_count_133 : decode cX12_count 133 = .ok (.if_icmp .ne 7, 3) := by decide +kernel
theorem dX12_count_136 : decode cX12_count 136 = .ok (.iload_n 3, 1) := by decide +kernel
theorem dX12_count_137 : decode cX12_count 137 = .ok (.goto 48, 3) := by decide +kernel
theorem dX12_count_140 : decode cX12_count 140 = .ok (.iload_n 1, 1) := by decide +kernel
theorem dX12_count_141 : decode cX12_count 141 = .ok (.iconst 2, 1) := by decide +kernel
theorem dX12_count_142 : decode cX12_count 142 = .ok (.if_icmp .ne 8, 3) := by decide +kernel
theorem dX12_count_145 : decode cX12_count 145 = .ok (.iload 4, 2) := by decide +kernel
theorem dX12_count_147 : decode cX12_count 147 = .ok (.goto 38, 3) := by decide +kernel
theorem dX12_count_150 : decode cX12_count 150 = .ok (.iload_n 1, 1) := by decide +kernel
theorem dX12_count_151 : decode cX12_count 151 = .ok (.iconst 3, 1) := by decide +kernel
theorem dX12_count_152 : decode cX12_count 152 = .ok (.if_icmp .ne 8, 3) := by decide +kernel
theorem dX12_count_155 : decode cX12_count 155 = .ok (.iload 5, 2) := by decide +kernel
theorem dX12_count_157 : decode cX12_count 157 = .ok (.goto 28, 3) := by decide +kernel
theorem dX12_count_160 : decode cX12_count 160 = .ok (.iload_n 1, 1) := by decide +kernel
theorem dX12_count_161 : decode cX12_count 161 = .ok (.iconst 4, 1) := by decide +kernel
theorem dX12_count_162 : decode cX12_count 162 = .ok (.if_icmp .ne 10, 3) := by decide +kernel
theorem dX12_count_165 : decode cX12_count 165 = .ok (.aload_n 0, 1) := by decide +kernel
theorem dX12_count_166 : decode cX12_count 166 = .ok (.getfield 11, 3) := by decide +kernel
theorem dX12_count_169 : decode cX12_count 169 = .ok (.goto 16, 3) := by decide +kernel
theorem dX12_count_172 : decode cX12_count 172 = .ok (.iload_n 1, 1) := by decide +kernel
theorem dX12_count_173 : decode cX12_count 173 = .ok (.iconst 5, 1) := by decide +kernel
theorem dX12_count_174 : decode cX12_count 174 = .ok (.if_icmp .ne 10, 3) := by decide +kernel
theorem dX12_count_177 : decode cX12_count 177 = .ok (.aload_n 0, 1) := by decide +kernel
theorem dX12_count_178 : decode cX12_count 178 = .ok (.getfield 188, 3) := by decide +kernel
theorem dX12_count_181 : decode cX12_count 181 = .ok (.goto 4, 3) := by decide +kernel
theorem dX12_count_184 : decode cX12_count 184 = .ok (.iconst (-1), 1) := by decide +kernel
theorem dX12_count_185 : decode cX12_count 185 = .ok (.ireturn, 1) := by decide +kernel
theorem dJ13_bitCount_95d88_0 : decode cJ13_bitCount_95d88 0 = .ok (.lload_n 0, 1) := by decide +kernel
theorem dJ13_bitCount_95d88_1 : decode cJ13_bitCount_95d88 1 = .ok (.lload_n 0, 1) := by decide +kernel
theorem dJ13_bitCount_95d88_2 : decode cJ13_bitCount_95d88 2 = .ok (.iconst 1, 1) := by decide +kernel
theorem dJ13_bitCount_95d88_3 : decode cJ13_bitCount_95d88 3 = .ok (.lushr, 1) := by decide +kernel
theorem dJ13_bitCount_95d88_4 : decode cJ13_bitCount_95d88 4 = .ok (.ldc2_w 314, 3) := by decide +kernel
theorem dJ13_bitCount_95d88_7 : decode cJ13_bitCount_95d88 7 = .ok (.land, 1) := by decide +kernel
theorem dJ13_bitCount_95d88_8 : decode cJ13_bitCount_95d88 8 = .ok (.lsub, 1) := by decide +kernel
theorem dJ13_bitCount_95d88_9 : decode cJ13_bitCount_95d88 9 = .ok (.lstore_n 0, 1) := by decide +kernel
theorem dJ13_bitCount_95d88_10 : decode cJ13_bitCount_95d88 10 = .ok (.lload_n 0, 1) := by decide +kernel
theorem dJ13_bitCount_95d88_11 : decode cJ13_bitCount_95d88 11 = .ok (.ldc2_w 316, 3) := by decide +kernel
theorem dJ13_bitCount_95d88_14 : decode cJ13_bitCount_95d88 14 = .ok (.land, 1) := by decide +kernel
theorem dJ13_bitCount_95d88_15 : decode cJ13_bitCount_95d88 15 = .ok (.lload_n 0, 1) := by decide +kernel
theorem dJ13_bitCount_95d88_16 : decode cJ13_bitCount_95d88 16 = .ok (.iconst 2, 1) := by decide +kernel
theorem dJ13_bitCount_95d88_17 : decode cJ13_bitCount_95d88 17 = .ok (.lushr, 1) := by decide +kernel
theorem dJ13_bitCount_95d88_18 : decode cJ13_bitCount_95d88 18 = .ok (.ldc2_w 316, 3) := by decide +kernel
theorem dJ13_bitCount_95d88_21 : decode cJ13_bitCount_95d88 21 = .ok (.land, 1) := by decide +kernel
theorem dJ13_bitCount_95d88_22 : decode cJ13_bitCount_95d88 22 = .ok (.ladd, 1) := by decide +kernel
theorem dJ13_bitCount_95d88_23 : decode cJ13_bitCount_95d88 23 = .ok (.lstore_n 0, 1) := by decide +kernel
theorem dJ13_bitCount_95d88_24 : decode cJ13_bitCount_95d88 24 = .ok (.lload_n 0, 1) := by decide +kernel
theorem dJ13_bitCount_95d88_25 : decode cJ13_bitCount_95d88 25 = .ok (.lload_n 0, 1) := by decide +kernel
theorem dJ13_bitCount_95d88_26 : decode cJ13_bitCount_95d88 26 = .ok (.iconst 4, 1) := by decide +kernel
theorem dJ13_bitCount_95d88_27 : decode cJ13_bitCount_95d88 27 = .ok (.lushr, 1) := by decide +kernel
theorem dJ13_bitCount_95d88_28 : decode cJ13_bitCount_95d88 28 = .ok (.ladd, 1) := by decide +kernel
theorem dJ13_bitCount_95d88_29 : decode cJ13_bitCount_95d88 29 = .ok (.ldc2_w 318, 3) := by decide +kernel
theorem dJ13_bitCount_95d88_32 : decode cJ13_bitCount_95d88 32 = .ok (.land, 1) := by decide +kernel
theorem dJ13_bitCount_95d88_33 : decode cJ13_bitCount_95d88 33 = .ok (.lstore_n 0, 1) := by decide +kernel
theorem dJ13_bitCount_95d88_34 : decode cJ13_bitCount_95d88 34 = .ok (.lload_n 0, 1) := by decide +kernel
theorem dJ13_bitCount_95d88_35 : decode cJ13_bitCount_95d88 35 = .ok (.lload_n 0, 1) := by decide +kernel
theorem dJ13_bitCount_95d88_36 : decode cJ13_bitCount_95d88 36 = .ok (.bipush 8, 2) := by decide +kernel
theorem dJ13_bitCount_95d88_38 : decode cJ13_bitCount_95d88 38 = .ok (.lushr, 1) := by decide +kernel
theorem dJ13_bitCount_95d88_39 : decode cJ13_bitCount_95d88 39 = .ok (.ladd, 1) := by decide +kernel
theorem dJ13_bitCount_95d88_40 : decode cJ13_bitCount_95d88 40 = .ok (.lstore_n 0, 1) := by decide +kernel
theorem dJ13_bitCount_95d88_41 : decode cJ13_bitCount_95d88 41 = .ok (.lload_n 0, 1) := by decide +kernel
theorem dJ13_bitCount_95d88_42 : decode cJ13_bitCount_95d88 42 = .ok (.lload_n 0, 1) := by decide +kernel
theorem dJ13_bitCount_95d88_43 : decode cJ13_bitCount_95d88 43 = .ok (.bipush 16, 2) := by decide +kernel
theorem dJ13_bitCount_95d88_45 : decode cJ13_bitCount_95d88 45 = .ok (.lushr, 1) := by decide +kernel
theorem dJ13_bitCount_95d88_46 : decode cJ13_bitCount_95d88 46 = .ok (.ladd, 1) := by decide +kernel
theorem dJ13_bitCount_95d88_47 : decode cJ13_bitCount_95d88 47 = .ok (.lstore_n 0, 1) := by decide +kernel
theorem dJ13_bitCount_95d88_48 : decode cJ13_bitCount_95d88 48 = .ok (.lload_n 0, 1) := by decide +kernel
theorem dJ13_bitCount_95d88_49 : decode cJ13_bitCount_95d88 49 = .ok (.lload_n 0, 1) := by decide +kernel
theorem dJ13_bitCount_95d88_50 : decode cJ13_bitCount_95d88 50 = .ok (.bipush 32, 2) := by decide +kernel
theorem dJ13_bitCount_95d88_52 : decode cJ13_bitCount_95d88 52 = .ok (.lushr, 1) := by decide +kernel
theorem dJ13_bitCount_95d88_53 : decode cJ13_bitCount_95d88 53 = .ok (.ladd, 1) := by decide +kernel
theorem dJ13_bitCount_95d88_54 : decode cJ13_bitCount_95d88 54 = .ok (.lstore_n 0, 1) := by decide +kernel
theorem dJ13_bitCount_95d88_55 : decode cJ13_bitCount_95d88 55 = .ok (.lload_n 0, 1) := by decide +kernel
theorem dJ13_bitCount_95d88_56 : decode cJ13_bitCount_95d88 56 = .ok (.l2i, 1) := by decide +kernel
theorem dJ13_bitCount_95d88_57 : decode cJ13_bitCount_95d88 57 = .ok (.bipush 127, 2) := by decide +kernel
theorem dJ13_bitCount_95d88_59 : decode cJ13_bitCount_95d88 59 = .ok (.iand, 1) := by decide +kernel
theorem dJ13_bitCount_95d88_60 : decode cJ13_bitCount_95d88 60 = .ok (.ireturn, 1) := by decide +kernel
theorem dL_cell_0 : decode cL_cell 0 = .ok (.aload_n 3, 1) := by decide +kernel
theorem dL_cell_1 : decode cL_cell 1 = .ok (.iconst 0, 1) := by decide +kernel
theorem dL_cell_2 : decode cL_cell 2 = .ok (.aload_n 0, 1) := by decide +kernel
theorem dL_cell_3 : decode cL_cell 3 = .ok (.iload_n 1, 1) := by decide +kernel
theorem dL_cell_4 : decode cL_cell 4 = .ok (.iload_n 2, 1) := by decide +kernel
theorem dL_cell_5 : decode cL_cell 5 = .ok (.invokevirtual 7, 3) := by decide +kernel
theorem dL_cell_8 : decode cL_cell 8 = .ok (.i2l, 1) := by decide +kernel
theorem dL_cell_9 : decode cL_cell 9 = .ok (.lastore, 1) := by decide +kernel
theorem dL_cell_10 : decode cL_cell 10 = .ok (.goto 7, 3) := by decide +kernel
theorem dL_cell_13 : decode cL_cell 13 = .ok (.astore 4, 2) := by decide +kernel
theorem dL_cell_15 : decode cL_cell 15 = .ok (.iconst 1, 1) := by decide +kernel
theorem dL_cell_16 : decode cL_cell 16 = .ok (.ireturn, 1) := by decide +kernel
theorem dL_cell_17 : decode cL_cell 17 = .ok (.iconst 0, 1) := by decide +kernel
theorem dL_cell_18 : decode cL_cell 18 = .ok (.ireturn, 1) := by decide +kernel
theorem dL_law_0 : decode cL_law 0 = .ok (.new 8, 3) := by decide +kernel
theorem dL_law_3 : decode cL_law 3 = .ok (.dup, 1) := by decide +kernel
theorem dL_law_4 : decode cL_law 4 = .ok (.invokespecial 15, 3) := by decide +kernel
theorem dL_law_7 : decode cL_law 7 = .ok (.astore_n 1, 1) := by decide +kernel
theorem dL_law_8 : decode cL_law 8 = .ok (.new 16, 3) := by decide +kernel
theorem dL_law_11 : decode cL_law 11 = .ok (.dup, 1) := by decide +kernel
theorem dL_law_12 : decode cL_law 12 = .ok (.invokespecial 18, 3) := by decide +kernel
theorem dL_law_15 : decode cL_law 15 = .ok (.astore_n 2, 1) := by decide +kernel
theorem dL_law_16 : decode cL_law 16 = .ok (.iconst 1, 1) := by decide +kernel
theorem dL_law_17 : decode cL_law 17 = .ok (.newarray .long, 2) := by decide +kernel
theorem dL_law_19 : decode cL_law 19 = .ok (.astore_n 3, 1) := by decide +kernel
theorem dL_law_20 : decode cL_law 20 = .ok (.iconst 0, 1) := by decide +kernel
theorem dL_law_21 : decode cL_law 21 = .ok (.istore 4, 2) := by decide +kernel
theorem dL_law_23 : decode cL_law 23 = .ok (.iload 4, 2) := by decide +kernel
theorem dL_law_25 : decode cL_law 25 = .ok (.aload_n 0, 1) := by decide +kernel
theorem dL_law_26 : decode cL_law 26 = .ok (.arraylength, 1) := by decide +kernel
theorem dL_law_27 : decode cL_law 27 = .ok (.bipush 7, 2) := by decide +kernel
theorem dL_law_29 : decode cL_law 29 = .ok (.isub, 1) := by decide +kernel
theorem dL_law_30 : decode cL_law 30 = .ok (.if_icmp .gt 773, 3) := by decide +kernel
theorem dL_law_33 : decode cL_law 33 = .ok (.aload_n 0, 1) := by decide +kernel
theorem dL_law_34 : decode cL_law 34 = .ok (.iload 4, 2) := by decide +kernel
theorem dL_law_36 : decode cL_law 36 = .ok (.iaload, 1) := by decide +kernel
theorem dL_law_37 : decode cL_law 37 = .ok (.bipush 15, 2) := by decide +kernel
theorem dL_law_39 : decode cL_law 39 = .ok (.iand, 1) := by decide +kernel
theorem dL_law_40 : decode cL_law 40 = .ok (.tableswitch 757 0 15 #[80, 227, 252, 289, 314, 351, 412, 465, 478, 515, 540, 577, 614, 627, 695, 732], 80) := by decide +kernel
theorem dL_law_120 : decode cL_law 120 = .ok (.aload_n 1, 1) := by decide +kernel
theorem dL_law_121 : decode cL_law 121 = .ok (.aload_n 0, 1) := by decide +kernel
theorem dL_law_122 : decode cL_law 122 = .ok (.iload 4, 2) := by decide +kernel
theorem dL_law_124 : decode cL_law 124 = .ok (.iconst 1, 1) := by decide +kernel
theorem dL_law_125 : decode cL_law 125 = .ok (.iadd, 1) := by decide +kernel
theorem dL_law_126 : decode cL_law 126 = .ok (.iaload, 1) := by decide +kernel
theorem dL_law_127 : decode cL_law 127 = .ok (.i2l, 1) := by decide +kernel
theorem dL_law_128 : decode cL_law 128 = .ok (.bipush 32, 2) := by decide +kernel
theorem dL_law_130 : decode cL_law 130 = .ok (.lshl, 1) := by decide +kernel
theorem dL_law_131 : decode cL_law 131 = .ok (.aload_n 0, 1) := by decide +kernel
theorem dL_law_132 : decode cL_law 132 = .ok (.iload 4, 2) := by decide +kernel
theorem dL_law_134 : decode cL_law 134 = .ok (.iconst 2, 1) := by decide +kernel
theorem dL_law_135 : decode cL_law 135 = .ok (.iadd, 1) := by decide +kernel
theorem dL_law_136 : decode cL_law 136 = .ok (.iaload, 1) := by decide +kernel
theorem dL_law_137 : decode cL_law 137 = .ok (.i2l, 1) := by decide +kernel
theorem dL_law_138 : decode cL_law 138 = .ok (.ldc2_w 19, 3) := by decide +kernel
theorem dL_law_141 : decode cL_law 141 = .ok (.land, 1) := by decide +kernel
theorem dL_law_142 : decode cL_law 142 = .ok (.lor, 1) := by decide +kernel
theorem dL_law_143 : decode cL_law 143 = .ok (.aload_n 0, 1) := by decide +kernel
theorem dL_law_144 : decode cL_law 144 = .ok (.iload 4, 2) := by decide +kernel
theorem dL_law_146 : decode cL_law 146 = .ok (.iconst 3, 1) := by decide +kernel
theorem dL_law_147 : decode cL_law 147 = .ok (.iadd, 1) := by decide +kernel
theorem dL_law_148 : decode cL_law 148 = .ok (.iaload, 1) := by decide +kernel
theorem dL_law_149 : decode cL_law 149 = .ok (.i2l, 1) := by decide +kernel
theorem dL_law_150 : decode cL_law 150 = .ok (.bipush 32, 2) := by decide +kernel
theorem dL_law_152 : decode cL_law 152 = .ok (.lshl, 1) := by decide +kernel
theorem dL_law_153 : decode cL_law 153 = .ok (.aload_n 0, 1) := by decide +kernel
theorem dL_law_154 : decode cL_law 154 = .ok (.iload 4, 2) := by decide +kernel
theorem dL_law_156 : decode cL_law 156 = .ok (.iconst 4, 1) := by decide +kernel
theorem dL_law_157 : decode cL_law 157 = .ok (.iadd, 1) := by decide +kernel
theorem dL_law_158 : decode cL_law 158 = .ok (.iaload, 1) := by decide +kernel
theorem dL_law_159 : decode cL_law 159 = .ok (.i2l, 1) := by decide +kernel
theorem dL_law_160 : decode cL_law 160 = .ok (.ldc2_w 19, 3) := by decide +kernel
theorem dL_law_163 : decode cL_law 163 = .ok (.land, 1) := by decide +kernel
theorem dL_law_164 : decode cL_law 164 = .ok (.lor, 1) := by decide +kernel
theorem dL_law_165 : decode cL_law 165 = .ok (.aload_n 0, 1) := by decide +kernel
theorem dL_law_166 : decode cL_law 166 = .ok (.iload 4, 2) := by decide +kernel
theorem dL_law_168 : decode cL_law 168 = .ok (.iconst 5, 1) := by decide +kernel
theorem dL_law_169 : decode cL_law 169 = .ok (.iadd, 1) := by decide +kernel
theorem dL_law_170 : decode cL_law 170 = .ok (.iaload, 1) := by decide +kernel
theorem dL_law_171 : decode cL_law 171 = .ok (.i2l, 1) := by decide +kernel
theorem dL_law_172 : decode cL_law 172 = .ok (.bipush 32, 2) := by decide +kernel
theorem dL_law_174 : decode cL_law 174 = .ok (.lshl, 1) := by decide +kernel
theorem dL_law_175 : decode cL_law 175 = .ok (.aload_n 0, 1) := by decide +kernel
theorem dL_law_176 : decode cL_law 176 = .ok (.iload 4, 2) := by decide +kernel
theorem dL_law_178 : decode cL_law 178 = .ok (.bipush 6, 2) := by decide +kernel
theorem dL_law_180 : decode cL_law 180 = .ok (.iadd, 1) := by decide +kernel
theorem dL_law_181 : decode cL_law 181 = .ok (.iaload, 1) := by decide +kernel
theorem dL_law_182 : decode cL_law 182 = .ok (.i2l, 1) := by decide +kernel
theorem dL_law_183 : decode cL_law 183 = .ok (.ldc2_w 19, 3) := by decide +kernel
theorem dL_law_186 : decode cL_law 186 = .ok (.land, 1) := by decide +kernel
theorem dL_law_187 : decode cL_law 187 = .ok (.lor, 1) := by decide +kernel
theorem dL_law_188 : decode cL_law 188 = .ok (.invokevirtual 21, 3) := by decide +kernel
theorem dL_law_191 : decode cL_law 191 = .ok (.aload_n 2, 1) := by decide +kernel
theorem dL_law_192 : decode cL_law 192 = .ok (.aload_n 0, 1) := by decide +kernel
theorem dL_law_193 : decode cL_law 193 = .ok (.iload 4, 2) := by decide +kernel
theorem dL_law_195 : decode cL_law 195 = .ok (.iconst 1, 1) := by decide +kernel
theorem dL_law_196 : decode cL_law 196 = .ok (.iadd, 1) := by decide +kernel
theorem dL_law_197 : decode cL_law 197 = .ok (.iaload, 1) := by decide +kernel
theorem dL_law_198 : decode cL_law 198 = .ok (.i2l, 1) := by decide +kernel
theorem dL_law_199 : decode cL_law 199 = .ok (.bipush 32, 2) := by decide +kernel
theorem dL_law_201 : decode cL_law 201 = .ok (.lshl, 1) := by decide +kernel
theorem dL_law_202 : decode cL_law 202 = .ok (.aload_n 0, 1) := by decide +kernel
theorem dL_law_203 : decode cL_law 203 = .ok (.iload 4, 2) := by decide +kernel
theorem dL_law_205 : decode cL_law 205 = .ok (.iconst 2, 1) := by decide +kernel
theorem dL_law_206 : decode cL_law 206 = .ok (.iadd, 1) := by decide +kernel
theorem dL_law_207 : decode cL_law 207 = .ok (.iaload, 1) := by decide +kernel
theorem dL_law_208 : decode cL_law 208 = .ok (.i2l, 1) := by decide +kernel
theorem dL_law_209 : decode cL_law 209 = .ok (.ldc2_w 19, 3) := by decide +kernel
theorem dL_law_212 : decode cL_law 212 = .ok (.land, 1) := by decide +kernel
theorem dL_law_213 : decode cL_law 213 = .ok (.lor, 1) := by decide +kernel
theorem dL_law_214 : decode cL_law 214 = .ok (.aload_n 0, 1) := by decide +kernel
theorem dL_law_215 : decode cL_law 215 = .ok (.iload 4, 2) := by decide +kernel
theorem dL_law_217 : decode cL_law 217 = .ok (.iconst 3, 1) := by decide +kernel
theorem dL_law_218 : decode cL_law 218 = .ok (.iadd, 1) := by decide +kernel
theorem dL_law_219 : decode cL_law 219 = .ok (.iaload, 1) := by decide +kernel
theorem dL_law_220 : decode cL_law 220 = .ok (.i2l, 1) := by decide +kernel
theorem dL_law_221 : decode cL_law 221 = .ok (.bipush 32, 2) := by decide +kernel
theorem dL_law_223 : decode cL_law 223 = .ok (.lshl, 1) := by decide +kernel
theorem dL_law_224 : decode cL_law 224 = .ok (.aload_n 0, 1) := by decide +kernel
theorem dL_law_225 : decode cL_law 225 = .ok (.iload 4, 2) := by decide +kernel
theorem dL_law_227 : decode cL_law 227 = .ok (.iconst 4, 1) := by decide +kernel
theorem dL_law_228 : decode cL_law 228 = .ok (.iadd, 1) := by decide +kernel
theorem dL_law_229 : decode cL_law 229 = .ok (.iaload, 1) := by decide +kernel
theorem dL_law_230 : decode cL_law 230 = .ok (.i2l, 1) := by decide +kernel
theorem dL_law_231 : decode cL_law 231 = .ok (.ldc2_w 19, 3) := by decide +kernel
theorem dL_law_234 : decode cL_law 234 = .ok (.land, 1) := by decide +kernel
theorem dL_law_235 : decode cL_law 235 = .ok (.lor, 1) := by decide +kernel
theorem dL_law_236 : decode cL_law 236 = .ok (.aload_n 0, 1) := by decide +kernel
theorem dL_law_237 : decode cL_law 237 = .ok (.iload 4, 2) := by decide +kernel
theorem dL_law_239 : decode cL_law 239 = .ok (.iconst 5, 1) := by decide +kernel
theorem dL_law_240 : decode cL_law 240 = .ok (.iadd, 1) := by decide +kernel
theorem dL_law_241 : decode cL_law 241 = .ok (.iaload, 1) := by decide +kernel
theorem dL_law_242 : decode cL_law 242 = .ok (.i2l, 1) := by decide +kernel
theorem dL_law_243 : decode cL_law 243 = .ok (.bipush 32, 2) := by decide +kernel
theorem dL_law_245 : decode cL_law 245 = .ok (.lshl, 1) := by decide +kernel
theorem dL_law_246 : decode cL_law 246 = .ok (.aload_n 0, 1) := by decide +kernel
theorem dL_law_247 : decode cL_law 247 = .ok (.iload 4, 2) := by decide +kernel
theorem dL_law_249 : decode cL_law 249 = .ok (.bipush 6, 2) := by decide +kernel
theorem dL_law_251 : decode cL_law 251 = .ok (.iadd, 1) := by decide +kernel
theorem dL_law_252 : decode cL_law 252 = .ok (.iaload, 1) := by decide +kernel
theorem dL_law_253 : decode cL_law 253 = .ok (.i2l, 1) := by decide +kernel
theorem dL_law_254 : decode cL_law 254 = .ok (.ldc2_w 19, 3) := by decide +kernel
theorem dL_law_257 : decode cL_law 257 = .ok (.land, 1) := by decide +kernel
theorem dL_law_258 : decode cL_law 258 = .ok (.lor, 1) := by decide +kernel
theorem dL_law_259 : decode cL_law 259 = .ok (.invokevirtual 25, 3) := by decide +kernel
theorem dL_law_262 : decode cL_law 262 = .ok (.if_icmp .eq 535, 3) := by decide +kernel
theorem dL_law_265 : decode cL_law 265 = .ok (.iconst 0, 1) := by decide +kernel
theorem dL_law_266 : decode cL_law 266 = .ok (.ireturn, 1) := by decide +kernel
theorem dL_law_267 : decode cL_law 267 = .ok (.aload_n 1, 1) := by decide +kernel
theorem dL_law_268 : decode cL_law 268 = .ok (.aload_n 0, 1) := by decide +kernel
theorem dL_law_269 : decode cL_law 269 = .ok (.iload 4, 2) := by decide +kernel
theorem dL_law_271 : decode cL_law 271 = .ok (.iconst 1, 1) := by decide +kernel
theorem dL_law_272 : decode cL_law 272 = .ok (.iadd, 1) := by decide +kernel
theorem dL_law_273 : decode cL_law 273 = .ok (.iaload, 1) := by decide +kernel
theorem dL_law_274 : decode cL_law 274 = .ok (.invokevirtual 26, 3) := by decide +kernel
theorem dL_law_277 : decode cL_law 277 = .ok (.aload_n 2, 1) := by decide +kernel
theorem dL_law_278 : decode cL_law 278 = .ok (.aload_n 0, 1) := by decide +kernel
theorem dL_law_279 : decode cL_law 279 = .ok (.iload 4, 2) := by decide +kernel
theorem dL_law_281 : decode cL_law 281 = .ok (.iconst 1, 1) := by decide +kernel
theorem dL_law_282 : decode cL_law 282 = .ok (.iadd, 1) := by decide +kernel
theorem dL_law_283 : decode cL_law 283 = .ok (.iaload, 1) := by decide +kernel
theorem dL_law_284 : decode cL_law 284 = .ok (.invokevirtual 30, 3) := by decide +kernel
theorem dL_law_287 : decode cL_law 287 = .ok (.if_icmp .eq 510, 3) := by decide +kernel
theorem dL_law_290 : decode cL_law 290 = .ok (.iconst 0, 1) := by decide +kernel
theorem dL_law_291 : decode cL_law 291 = .ok (.ireturn, 1) := by decide +kernel
theorem dL_law_292 : decode cL_law 292 = .ok (.aload_n 1, 1) := by decide +kernel
theorem dL_law_293 : decode cL_law 293 = .ok (.aload_n 0, 1) := by decide +kernel
theorem dL_law_294 : decode cL_law 294 = .ok (.iload 4, 2) := by decide +kernel
theorem dL_law_296 : decode cL_law 296 = .ok (.iconst 1, 1) := by decide +kernel
theorem dL_law_297 : decode cL_law 297 = .ok (.iadd, 1) := by decide +kernel
theorem dL_law_298 : decode cL_law 298 = .ok (.iaload, 1) := by decide +kernel
theorem dL_law_299 : decode cL_law 299 = .ok (.aload_n 0, 1) := by decide +kernel
theorem dL_law_300 : decode cL_law 300 = .ok (.iload 4, 2) := by decide +kernel
theorem dL_law_302 : decode cL_law 302 = .ok (.iconst 2, 1) := by decide +kernel
theorem dL_law_303 : decode cL_law 303 = .ok (.iadd, 1) := by decide +kernel
theorem dL_law_304 : decode cL_law 304 = .ok (.iaload, 1) := by decide +kernel
theorem dL_law_305 : decode cL_law 305 = .ok (.invokevirtual 31, 3) := by decide +kernel
theorem dL_law_308 : decode cL_law 308 = .ok (.aload_n 2, 1) := by decide +kernel
theorem dL_law_309 : decode cL_law 309 = .ok (.aload_n 0, 1) := by decide +kernel
theorem dL_law_310 : decode cL_law 310 = .ok (.iload 4, 2) := by decide +kernel
theorem dL_law_312 : decode cL_law 312 = .ok (.iconst 1, 1) := by decide +kernel
theorem dL_law_313 : decode cL_law 313 = .ok (.iadd, 1) := by decide +kernel
theorem dL_law_314 : decode cL_law 314 = .ok (.iaload, 1) := by decide +kernel
theorem dL_law_315 : decode cL_law 315 = .ok (.aload_n 0, 1) := by decide +kernel
theorem dL_law_316 : decode cL_law 316 = .ok (.iload 4, 2) := by decide +kernel
theorem dL_law_318 : decode cL_law 318 = .ok (.iconst 2, 1) := by decide +kernel
theorem dL_law_319 : decode cL_law 319 = .ok (.iadd, 1) := by decide +kernel
theorem dL_law_320 : decode cL_law 320 = .ok (.iaload, 1) := by decide +kernel
theorem dL_law_321 : decode cL_law 321 = .ok (.invokevirtual 35, 3) := by decide +kernel
theorem dL_law_324 : decode cL_law 324 = .ok (.if_icmp .eq 473, 3) := by decide +kernel
theorem dL_law_327 : decode cL_law 327 = .ok (.iconst 0, 1) := by decide +kernel
theorem dL_law_328 : decode cL_law 328 = .ok (.ireturn, 1) := by decide +kernel
theorem dL_law_329 : decode cL_law 329 = .ok (.aload_n 1, 1) := by decide +kernel
theorem dL_law_330 : decode cL_law 330 = .ok (.aload_n 0, 1) := by decide +kernel
theorem dL_law_331 : decode cL_law 331 = .ok (.iload 4, 2) := by decide +kernel
theorem dL_law_333 : decode cL_law 333 = .ok (.iconst 1, 1) := by decide +kernel
theorem dL_law_334 : decode cL_law 334 = .ok (.iadd, 1) := by decide +kernel
theorem dL_law_335 : decode cL_law 335 = .ok (.iaload, 1) := by decide +kernel
theorem dL_law_336 : decode cL_law 336 = .ok (.invokevirtual 36, 3) := by decide +kernel
theorem dL_law_339 : decode cL_law 339 = .ok (.aload_n 2, 1) := by decide +kernel
theorem dL_law_340 : decode cL_law 340 = .ok (.aload_n 0, 1) := by decide +kernel
theorem dL_law_341 : decode cL_law 341 = .ok (.iload 4, 2) := by decide +kernel
theorem dL_law_343 : decode cL_law 343 = .ok (.iconst 1, 1) := by decide +kernel
theorem dL_law_344 : decode cL_law 344 = .ok (.iadd, 1) := by decide +kernel
theorem dL_law_345 : decode cL_law 345 = .ok (.iaload, 1) := by decide +kernel
theorem dL_law_346 : decode cL_law 346 = .ok (.invokevirtual 40, 3) := by decide +kernel
theorem dL_law_349 : decode cL_law 349 = .ok (.if_icmp .eq 448, 3) := by decide +kernel
theorem dL_law_352 : decode cL_law 352 = .ok (.iconst 0, 1) := by decide +kernel
theorem dL_law_353 : decode cL_law 353 = .ok (.ireturn, 1) := by decide +kernel
theorem dL_law_354 : decode cL_law 354 = .ok (.aload_n 1, 1) := by decide +kernel
theorem dL_law_355 : decode cL_law 355 = .ok (.aload_n 0, 1) := by decide +kernel
theorem dL_law_356 : decode cL_law 356 = .ok (.iload 4, 2) := by decide +kernel
theorem dL_law_358 : decode cL_law 358 = .ok (.iconst 1, 1) := by decide +kernel
theorem dL_law_359 : decode cL_law 359 = .ok (.iadd, 1) := by decide +kernel
theorem dL_law_360 : decode cL_law 360 = .ok (.iaload, 1) := by decide +kernel
theorem dL_law_361 : decode cL_law 361 = .ok (.aload_n 0, 1) := by decide +kernel
theorem dL_law_362 : decode cL_law 362 = .ok (.iload 4, 2) := by decide +kernel
theorem dL_law_364 : decode cL_law 364 = .ok (.iconst 2, 1) := by decide +kernel
theorem dL_law_365 : decode cL_law 365 = .ok (.iadd, 1) := by decide +kernel
theorem dL_law_366 : decode cL_law 366 = .ok (.iaload, 1) := by decide +kernel
theorem dL_law_367 : decode cL_law 367 = .ok (.invokevirtual 41, 3) := by decide +kernel
theorem dL_law_370 : decode cL_law 370 = .ok (.aload_n 2, 1) := by decide +kernel
theorem dL_law_371 : decode cL_law 371 = .ok (.aload_n 0, 1) := by decide +kernel
theorem dL_law_372 : decode cL_law 372 = .ok (.iload 4, 2) := by decide +kernel
theorem dL_law_374 : decode cL_law 374 = .ok (.iconst 1, 1) := by decide +kernel
theorem dL_law_375 : decode cL_law 375 = .ok (.iadd, 1) := by decide +kernel
theorem dL_law_376 : decode cL_law 376 = .ok (.iaload, 1) := by decide +kernel
theorem dL_law_377 : decode cL_law 377 = .ok (.aload_n 0, 1) := by decide +kernel
theorem dL_law_378 : decode cL_law 378 = .ok (.iload 4, 2) := by decide +kernel
theorem dL_law_380 : decode cL_law 380 = .ok (.iconst 2, 1) := by decide +kernel
theorem dL_law_381 : decode cL_law 381 = .ok (.iadd, 1) := by decide +kernel
theorem dL_law_382 : decode cL_law 382 = .ok (.iaload, 1) := by decide +kernel
theorem dL_law_383 : decode cL_law 383 = .ok (.invokevirtual 44, 3) := by decide +kernel
theorem dL_law_386 : decode cL_law 386 = .ok (.if_icmp .eq 411, 3) := by decide +kernel
theorem dL_law_389 : decode cL_law 389 = .ok (.iconst 0, 1) := by decide +kernel
theorem dL_law_390 : decode cL_law 390 = .ok (.ireturn, 1) := by decide +kernel
theorem dL_law_391 : decode cL_law 391 = .ok (.aload_n 1, 1) := by decide +kernel
theorem dL_law_392 : decode cL_law 392 = .ok (.aload_n 0, 1) := by decide +kernel
theorem dL_law_393 : decode cL_law 393 = .ok (.iload 4, 2) := by decide +kernel
theorem dL_law_395 : decode cL_law 395 = .ok (.iconst 1, 1) := by decide +kernel
theorem dL_law_396 : decode cL_law 396 = .ok (.iadd, 1) := by decide +kernel
theorem dL_law_397 : decode cL_law 397 = .ok (.iaload, 1) := by decide +kernel
theorem dL_law_398 : decode cL_law 398 = .ok (.aload_n 0, 1) := by decide +kernel
theorem dL_law_399 : decode cL_law 399 = .ok (.iload 4, 2) := by decide +kernel
theorem dL_law_401 : decode cL_law 401 = .ok (.iconst 2, 1) := by decide +kernel
theorem dL_law_402 : decode cL_law 402 = .ok (.iadd, 1) := by decide +kernel
theorem dL_law_403 : decode cL_law 403 = .ok (.iaload, 1) := by decide +kernel
theorem dL_law_404 : decode cL_law 404 = .ok (.aload_n 0, 1) := by decide +kernel
theorem dL_law_405 : decode cL_law 405 = .ok (.iload 4, 2) := by decide +kernel
theorem dL_law_407 : decode cL_law 407 = .ok (.iconst 3, 1) := by decide +kernel
theorem dL_law_408 : decode cL_law 408 = .ok (.iadd, 1) := by decide +kernel
theorem dL_law_409 : decode cL_law 409 = .ok (.iaload, 1) := by decide +kernel
theorem dL_law_410 : decode cL_law 410 = .ok (.aload_n 0, 1) := by decide +kernel
theorem dL_law_411 : decode cL_law 411 = .ok (.iload 4, 2) := by decide +kernel
theorem dL_law_413 : decode cL_law 413 = .ok (.iconst 4, 1) := by decide +kernel
theorem dL_law_414 : decode cL_law 414 = .ok (.iadd, 1) := by decide +kernel
theorem dL_law_415 : decode cL_law 415 = .ok (.iaload, 1) := by decide +kernel
theorem dL_law_416 : decode cL_law 416 = .ok (.invokevirtual 45, 3) := by decide +kernel
theorem dL_law_419 : decode cL_law 419 = .ok (.aload_n 2, 1) := by decide +kernel
theorem dL_law_420 : decode cL_law 420 = .ok (.aload_n 0, 1) := by decide +kernel
theorem dL_law_421 : decode cL_law 421 = .ok (.iload 4, 2) := by decide +kernel
theorem dL_law_423 : decode cL_law 423 = .ok (.iconst 1, 1) := by decide +kernel
theorem dL_law_424 : decode cL_law 424 = .ok (.iadd, 1) := by decide +kernel
theorem dL_law_425 : decode cL_law 425 = .ok (.iaload, 1) := by decide +kernel
theorem dL_law_426 : decode cL_law 426 = .ok (.aload_n 0, 1) := by decide +kernel
theorem dL_law_427 : decode cL_law 427 = .ok (.iload 4, 2) := by decide +kernel
theorem dL_law_429 : decode cL_law 429 = .ok (.iconst 2, 1) := by decide +kernel
theorem dL_law_430 : decode cL_law 430 = .ok (.iadd, 1) := by decide +kernel
theorem dL_law_431 : decode cL_law 431 = .ok (.iaload, 1) := by decide +kernel
theorem dL_law_432 : decode cL_law 432 = .ok (.aload_n 0, 1) := by decide +kernel
theorem dL_law_433 : decode cL_law 433 = .ok (.iload 4, 2) := by decide +kernel
theorem dL_law_435 : decode cL_law 435 = .ok (.iconst 3, 1) := by decide +kernel
theorem dL_law_436 : decode cL_law 436 = .ok (.iadd, 1) := by decide +kernel
theorem dL_law_437 : decode cL_law 437 = .ok (.iaload, 1) := by decide +kernel
theorem dL_law_438 : decode cL_law 438 = .ok (.aload_n 0, 1) := by decide +kernel
theorem dL_law_439 : decode cL_law 439 = .ok (.iload 4, 2) := by decide +kernel
theorem dL_law_441 : decode cL_law 441 = .ok (.iconst 4, 1) := by decide +kernel
theorem dL_law_442 : decode cL_law 442 = .ok (.iadd, 1) := by decide +kernel
theorem dL_law_443 : decode cL_law 443 = .ok (.iaload, 1) := by decide +kernel
theorem dL_law_444 : decode cL_law 444 = .ok (.invokevirtual 49, 3) := by decide +kernel
theorem dL_law_447 : decode cL_law 447 = .ok (.if_icmp .eq 350, 3) := by decide +kernel
theorem dL_law_450 : decode cL_law 450 = .ok (.iconst 0, 1) := by decide +kernel
theorem dL_law_451 : decode cL_law 451 = .ok (.ireturn, 1) := by decide +kernel
theorem dL_law_452 : decode cL_law 452 = .ok (.aload_n 1, 1) := by decide +kernel
theorem dL_law_453 : decode cL_law 453 = .ok (.aload_n 0, 1) := by decide +kernel
theorem dL_law_454 : decode cL_law 454 = .ok (.iload 4, 2) := by decide +kernel
theorem dL_law_456 : decode cL_law 456 = .ok (.iconst 1, 1) := by decide +kernel
theorem dL_law_457 : decode cL_law 457 = .ok (.iadd, 1) := by decide +kernel
theorem dL_law_458 : decode cL_law 458 = .ok (.iaload, 1) := by decide +kernel
theorem dL_law_459 : decode cL_law 459 = .ok (.aload_n 0, 1) := by decide +kernel
theorem dL_law_460 : decode cL_law 460 = .ok (.iload 4, 2) := by decide +kernel
theorem dL_law_462 : decode cL_law 462 = .ok (.iconst 2, 1) := by decide +kernel
theorem dL_law_463 : decode cL_law 463 = .ok (.iadd, 1) := by decide +kernel
theorem dL_law_464 : decode cL_law 464 = .ok (.iaload, 1) := by decide +kernel
theorem dL_law_465 : decode cL_law 465 = .ok (.ifCond .eq 7, 3) := by decide +kernel
theorem dL_law_468 : decode cL_law 468 = .ok (.iconst 1, 1) := by decide +kernel
theorem dL_law_469 : decode cL_law 469 = .ok (.goto 4, 3) := by decide +kernel
theorem dL_law_472 : decode cL_law 472 = .ok (.iconst 0, 1) := by decide +kernel
theorem dL_law_473 : decode cL_law 473 = .ok (.invokevirtual 50, 3) := by decide +kernel
theorem dL_law_476 : decode cL_law 476 = .ok (.aload_n 2, 1) := by decide +kernel
theorem dL_law_477 : decode cL_law 477 = .ok (.aload_n 0, 1) := by decide +kernel
theorem dL_law_478 : decode cL_law 478 = .ok (.iload 4, 2) := by decide +kernel
theorem dL_law_480 : decode cL_law 480 = .ok (.iconst 1, 1) := by decide +kernel
theorem dL_law_481 : decode cL_law 481 = .ok (.iadd, 1) := by decide +kernel
theorem dL_law_482 : decode cL_law 482 = .ok (.iaload, 1) := by decide +kernel
theorem dL_law_483 : decode cL_law 483 = .ok (.aload_n 0, 1) := by decide +kernel
theorem dL_law_484 : decode cL_law 484 = .ok (.iload 4, 2) := by decide +kernel
theorem dL_law_486 : decode cL_law 486 = .ok (.iconst 2, 1) := by decide +kernel
theorem dL_law_487 : decode cL_law 487 = .ok (.iadd, 1) := by decide +kernel
theorem dL_law_488 : decode cL_law 488 = .ok (.iaload, 1) := by decide +kernel
theorem dL_law_489 : decode cL_law 489 = .ok (.ifCond .eq 7, 3) := by decide +kernel
theorem dL_law_492 : decode cL_law 492 = .ok (.iconst 1, 1) := by decide +kernel
theorem dL_law_493 : decode cL_law 493 = .ok (.goto 4, 3) := by decide +kernel
theorem dL_law_496 : decode cL_law 496 = .ok (.iconst 0, 1) := by decide +kernel
theorem dL_law_497 : decode cL_law 497 = .ok (.invokevirtual 54, 3) := by decide +kernel
theorem dL_law_500 : decode cL_law 500 = .ok (.if_icmp .eq 297, 3) := by decide +kernel
theorem dL_law_503 : decode cL_law 503 = .ok (.iconst 0, 1) := by decide +kernel
theorem dL_law_504 : decode cL_law 504 = .ok (.ireturn, 1) := by decide +kernel
theorem dL_law_505 : decode cL_law 505 = .ok (.aload_n 1, 1) := by decide +kernel
theorem dL_law_506 : decode cL_law 506 = .ok (.invokevirtual 55, 3) := by decide +kernel
theorem dL_law_509 : decode cL_law 509 = .ok (.aload_n 2, 1) := by decide +kernel
theorem dL_law_510 : decode cL_law 510 = .ok (.invokevirtual 59, 3) := by decide +kernel
theorem dL_law_513 : decode cL_law 513 = .ok (.if_icmp .eq 284, 3) := by decide +kernel
theorem dL_law_516 : decode cL_law 516 = .ok (.iconst 0, 1) := by decide +kernel
theorem dL_law_517 : decode cL_law 517 = .ok (.ireturn, 1) := by decide +kernel
theorem dL_law_518 : decode cL_law 518 = .ok (.aload_n 1, 1) := by decide +kernel
theorem dL_law_519 : decode cL_law 519 = .ok (.aload_n 0, 1) := by decide +kernel
theorem dL_law_520 : decode cL_law 520 = .ok (.iload 4, 2) := by decide +kernel
theorem dL_law_522 : decode cL_law 522 = .ok (.iconst 1, 1) := by decide +kernel
theorem dL_law_523 : decode cL_law 523 = .ok (.iadd, 1) := by decide +kernel
theorem dL_law_524 : decode cL_law 524 = .ok (.iaload, 1) := by decide +kernel
theorem dL_law_525 : decode cL_law 525 = .ok (.aload_n 0, 1) := by decide +kernel
theorem dL_law_526 : decode cL_law 526 = .ok (.iload 4, 2) := by decide +kernel
theorem dL_law_528 : decode cL_law 528 = .ok (.iconst 2, 1) := by decide +kernel
theorem dL_law_529 : decode cL_law 529 = .ok (.iadd, 1) := by decide +kernel
theorem dL_law_530 : decode cL_law 530 = .ok (.iaload, 1) := by decide +kernel
theorem dL_law_531 : decode cL_law 531 = .ok (.invokevirtual 60, 3) := by decide +kernel
theorem dL_law_534 : decode cL_law 534 = .ok (.aload_n 2, 1) := by decide +kernel
theorem dL_law_535 : decode cL_law 535 = .ok (.aload_n 0, 1) := by decide +kernel
theorem dL_law_536 : decode cL_law 536 = .ok (.iload 4, 2) := by decide +kernel
theorem dL_law_538 : decode cL_law 538 = .ok (.iconst 1, 1) := by decide +kernel
theorem dL_law_539 : decode cL_law 539 = .ok (.iadd, 1) := by decide +kernel
theorem dL_law_540 : decode cL_law 540 = .ok (.iaload, 1) := by decide +kernel
theorem dL_law_541 : decode cL_law 541 = .ok (.aload_n 0, 1) := by decide +kernel
theorem dL_law_542 : decode cL_law 542 = .ok (.iload 4, 2) := by decide +kernel
theorem dL_law_544 : decode cL_law 544 = .ok (.iconst 2, 1) := by decide +kernel
theorem dL_law_545 : decode cL_law 545 = .ok (.iadd, 1) := by decide +kernel
theorem dL_law_546 : decode cL_law 546 = .ok (.iaload, 1) := by decide +kernel
theorem dL_law_547 : decode cL_law 547 = .ok (.invokevirtual 63, 3) := by decide +kernel
theorem dL_law_550 : decode cL_law 550 = .ok (.if_icmp .eq 247, 3) := by decide +kernel
theorem dL_law_553 : decode cL_law 553 = .ok (.iconst 0, 1) := by decide +kernel
theorem dL_law_554 : decode cL_law 554 = .ok (.ireturn, 1) := by decide +kernel
theorem dL_law_555 : decode cL_law 555 = .ok (.aload_n 1, 1) := by decide +kernel
theorem dL_law_556 : decode cL_law 556 = .ok (.aload_n 0, 1) := by decide +kernel
theorem dL_law_557 : decode cL_law 557 = .ok (.iload 4, 2) := by decide +kernel
theorem dL_law_559 : decode cL_law 559 = .ok (.iconst 1, 1) := by decide +kernel
theorem dL_law_560 : decode cL_law 560 = .ok (.iadd, 1) := by decide +kernel
theorem dL_law_561 : decode cL_law 561 = .ok (.iaload, 1) := by decide +kernel
theorem dL_law_562 : decode cL_law 562 = .ok (.invokevirtual 64, 3) := by decide +kernel
theorem dL_law_565 : decode cL_law 565 = .ok (.aload_n 2, 1) := by decide +kernel
theorem dL_law_566 : decode cL_law 566 = .ok (.aload_n 0, 1) := by decide +kernel
theorem dL_law_567 : decode cL_law 567 = .ok (.iload 4, 2) := by decide +kernel
theorem dL_law_569 : decode cL_law 569 = .ok (.iconst 1, 1) := by decide +kernel
theorem dL_law_570 : decode cL_law 570 = .ok (.iadd, 1) := by decide +kernel
theorem dL_law_571 : decode cL_law 571 = .ok (.iaload, 1) := by decide +kernel
theorem dL_law_572 : decode cL_law 572 = .ok (.invokevirtual 67, 3) := by decide +kernel
theorem dL_law_575 : decode cL_law 575 = .ok (.if_icmp .eq 222, 3) := by decide +kernel
theorem dL_law_578 : decode cL_law 578 = .ok (.iconst 0, 1) := by decide +kernel
theorem dL_law_579 : decode cL_law 579 = .ok (.ireturn, 1) := by decide +kernel
theorem dL_law_580 : decode cL_law 580 = .ok (.aload_n 1, 1) := by decide +kernel
theorem dL_law_581 : decode cL_law 581 = .ok (.aload_n 0, 1) := by decide +kernel
theorem dL_law_582 : decode cL_law 582 = .ok (.iload 4, 2) := by decide +kernel
theorem dL_law_584 : decode cL_law 584 = .ok (.iconst 1, 1) := by decide +kernel
theorem dL_law_585 : decode cL_law 585 = .ok (.iadd, 1) := by decide +kernel
theorem dL_law_586 : decode cL_law 586 = .ok (.iaload, 1) := by decide +kernel
theorem dL_law_587 : decode cL_law 587 = .ok (.aload_n 0, 1) := by decide +kernel
theorem dL_law_588 : decode cL_law 588 = .ok (.iload 4, 2) := by decide +kernel
theorem dL_law_590 : decode cL_law 590 = .ok (.iconst 2, 1) := by decide +kernel
theorem dL_law_591 : decode cL_law 591 = .ok (.iadd, 1) := by decide +kernel
theorem dL_law_592 : decode cL_law 592 = .ok (.iaload, 1) := by decide +kernel
theorem dL_law_593 : decode cL_law 593 = .ok (.invokevirtual 68, 3) := by decide +kernel
theorem dL_law_596 : decode cL_law 596 = .ok (.aload_n 2, 1) := by decide +kernel
theorem dL_law_597 : decode cL_law 597 = .ok (.aload_n 0, 1) := by decide +kernel
theorem dL_law_598 : decode cL_law 598 = .ok (.iload 4, 2) := by decide +kernel
theorem dL_law_600 : decode cL_law 600 = .ok (.iconst 1, 1) := by decide +kernel
theorem dL_law_601 : decode cL_law 601 = .ok (.iadd, 1) := by decide +kernel
theorem dL_law_602 : decode cL_law 602 = .ok (.iaload, 1) := by decide +kernel
theorem dL_law_603 : decode cL_law 603 = .ok (.aload_n 0, 1) := by decide +kernel
theorem dL_law_604 : decode cL_law 604 = .ok (.iload 4, 2) := by decide +kernel
theorem dL_law_606 : decode cL_law 606 = .ok (.iconst 2, 1) := by decide +kernel
theorem dL_law_607 : decode cL_law 607 = .ok (.iadd, 1) := by decide +kernel
theorem dL_law_608 : decode cL_law 608 = .ok (.iaload, 1) := by decide +kernel
theorem dL_law_609 : decode cL_law 609 = .ok (.invokevirtual 71, 3) := by decide +kernel
theorem dL_law_612 : decode cL_law 612 = .ok (.if_icmp .eq 185, 3) := by decide +kernel
theorem dL_law_615 : decode cL_law 615 = .ok (.iconst 0, 1) := by decide +kernel
theorem dL_law_616 : decode cL_law 616 = .ok (.ireturn, 1) := by decide +kernel
theorem dL_law_617 : decode cL_law 617 = .ok (.aload_n 1, 1) := by decide +kernel
theorem dL_law_618 : decode cL_law 618 = .ok (.aload_n 0, 1) := by decide +kernel
theorem dL_law_619 : decode cL_law 619 = .ok (.iload 4, 2) := by decide +kernel
theorem dL_law_621 : decode cL_law 621 = .ok (.iconst 1, 1) := by decide +kernel
theorem dL_law_622 : decode cL_law 622 = .ok (.iadd, 1) := by decide +kernel
theorem dL_law_623 : decode cL_law 623 = .ok (.iaload, 1) := by decide +kernel
theorem dL_law_624 : decode cL_law 624 = .ok (.aload_n 0, 1) := by decide +kernel
theorem dL_law_625 : decode cL_law 625 = .ok (.iload 4, 2) := by decide +kernel
theorem dL_law_627 : decode cL_law 627 = .ok (.iconst 2, 1) := by decide +kernel
theorem dL_law_628 : decode cL_law 628 = .ok (.iadd, 1) := by decide +kernel
theorem dL_law_629 : decode cL_law 629 = .ok (.iaload, 1) := by decide +kernel
theorem dL_law_630 : decode cL_law 630 = .ok (.invokevirtual 72, 3) := by decide +kernel
theorem dL_law_633 : decode cL_law 633 = .ok (.aload_n 2, 1) := by decide +kernel
theorem dL_law_634 : decode cL_law 634 = .ok (.aload_n 0, 1) := by decide +kernel
theorem dL_law_635 : decode cL_law 635 = .ok (.iload 4, 2) := by decide +kernel
theorem dL_law_637 : decode cL_law 637 = .ok (.iconst 1, 1) := by decide +kernel
theorem dL_law_638 : decode cL_law 638 = .ok (.iadd, 1) := by decide +kernel
theorem dL_law_639 : decode cL_law 639 = .ok (.iaload, 1) := by decide +kernel
theorem dL_law_640 : decode cL_law 640 = .ok (.aload_n 0, 1) := by decide +kernel
theorem dL_law_641 : decode cL_law 641 = .ok (.iload 4, 2) := by decide +kernel
theorem dL_law_643 : decode cL_law 643 = .ok (.iconst 2, 1) := by decide +kernel
theorem dL_law_644 : decode cL_law 644 = .ok (.iadd, 1) := by decide +kernel
theorem dL_law_645 : decode cL_law 645 = .ok (.iaload, 1) := by decide +kernel
theorem dL_law_646 : decode cL_law 646 = .ok (.invokevirtual 75, 3) := by decide +kernel
theorem dL_law_649 : decode cL_law 649 = .ok (.if_icmp .eq 148, 3) := by decide +kernel
theorem dL_law_652 : decode cL_law 652 = .ok (.iconst 0, 1) := by decide +kernel
theorem dL_law_653 : decode cL_law 653 = .ok (.ireturn, 1) := by decide +kernel
theorem dL_law_654 : decode cL_law 654 = .ok (.aload_n 1, 1) := by decide +kernel
theorem dL_law_655 : decode cL_law 655 = .ok (.invokevirtual 76, 3) := by decide +kernel
theorem dL_law_658 : decode cL_law 658 = .ok (.aload_n 2, 1) := by decide +kernel
theorem dL_law_659 : decode cL_law 659 = .ok (.invokevirtual 79, 3) := by decide +kernel
theorem dL_law_662 : decode cL_law 662 = .ok (.if_icmp .eq 135, 3) := by decide +kernel
theorem dL_law_665 : decode cL_law 665 = .ok (.iconst 0, 1) := by decide +kernel
theorem dL_law_666 : decode cL_law 666 = .ok (.ireturn, 1) := by decide +kernel
theorem dL_law_667 : decode cL_law 667 = .ok (.aload_n 1, 1) := by decide +kernel
theorem dL_law_668 : decode cL_law 668 = .ok (.aload_n 0, 1) := by decide +kernel
theorem dL_law_669 : decode cL_law 669 = .ok (.iload 4, 2) := by decide +kernel
theorem dL_law_671 : decode cL_law 671 = .ok (.iconst 1, 1) := by decide +kernel
theorem dL_law_672 : decode cL_law 672 = .ok (.iadd, 1) := by decide +kernel
theorem dL_law_673 : decode cL_law 673 = .ok (.iaload, 1) := by decide +kernel
theorem dL_law_674 : decode cL_law 674 = .ok (.aload_n 0, 1) := by decide +kernel
theorem dL_law_675 : decode cL_law 675 = .ok (.iload 4, 2) := by decide +kernel
theorem dL_law_677 : decode cL_law 677 = .ok (.iconst 2, 1) := by decide +kernel
theorem dL_law_678 : decode cL_law 678 = .ok (.iadd, 1) := by decide +kernel
theorem dL_law_679 : decode cL_law 679 = .ok (.iaload, 1) := by decide +kernel
theorem dL_law_680 : decode cL_law 680 = .ok (.aload_n 3, 1) := by decide +kernel
theorem dL_law_681 : decode cL_law 681 = .ok (.invokestatic 80, 3) := by decide +kernel
theorem dL_law_684 : decode cL_law 684 = .ok (.istore 5, 2) := by decide +kernel
theorem dL_law_686 : decode cL_law 686 = .ok (.aload_n 2, 1) := by decide +kernel
theorem dL_law_687 : decode cL_law 687 = .ok (.aload_n 0, 1) := by decide +kernel
theorem dL_law_688 : decode cL_law 688 = .ok (.iload 4, 2) := by decide +kernel
theorem dL_law_690 : decode cL_law 690 = .ok (.iconst 1, 1) := by decide +kernel
theorem dL_law_691 : decode cL_law 691 = .ok (.iadd, 1) := by decide +kernel
theorem dL_law_692 : decode cL_law 692 = .ok (.iaload, 1) := by decide +kernel
theorem dL_law_693 : decode cL_law 693 = .ok (.aload_n 0, 1) := by decide +kernel
theorem dL_law_694 : decode cL_law 694 = .ok (.iload 4, 2) := by decide +kernel
theorem dL_law_696 : decode cL_law 696 = .ok (.iconst 2, 1) := by decide +kernel
theorem dL_law_697 : decode cL_law 697 = .ok (.iadd, 1) := by decide +kernel
theorem dL_law_698 : decode cL_law 698 = .ok (.iaload, 1) := by decide +kernel
theorem dL_law_699 : decode cL_law 699 = .ok (.invokevirtual 85, 3) := by decide +kernel
theorem dL_law_702 : decode cL_law 702 = .ok (.istore 6, 2) := by decide +kernel
theorem dL_law_704 : decode cL_law 704 = .ok (.aload_n 2, 1) := by decide +kernel
theorem dL_law_705 : decode cL_law 705 = .ok (.invokevirtual 86, 3) := by decide +kernel
theorem dL_law_708 : decode cL_law 708 = .ok (.iload 5, 2) := by decide +kernel
theorem dL_law_710 : decode cL_law 710 = .ok (.if_icmp .eq 5, 3) := by decide +kernel
theorem dL_law_713 : decode cL_law 713 = .ok (.iconst 0, 1) := by decide +kernel
theorem dL_law_714 : decode cL_law 714 = .ok (.ireturn, 1) := by decide +kernel
theorem dL_law_715 : decode cL_law 715 = .ok (.iload 5, 2) := by decide +kernel
theorem dL_law_717 : decode cL_law 717 = .ok (.ifCond .ne 15, 3) := by decide +kernel
theorem dL_law_720 : decode cL_law 720 = .ok (.aload_n 3, 1) := by decide +kernel
theorem dL_law_721 : decode cL_law 721 = .ok (.iconst 0, 1) := by decide +kernel
theorem dL_law_722 : decode cL_law 722 = .ok (.laload, 1) := by decide +kernel
theorem dL_law_723 : decode cL_law 723 = .ok (.iload 6, 2) := by decide +kernel
theorem dL_law_725 : decode cL_law 725 = .ok (.i2l, 1) := by decide +kernel
theorem dL_law_726 : decode cL_law 726 = .ok (.lcmp, 1) := by decide +kernel
theorem dL_law_727 : decode cL_law 727 = .ok (.ifCond .eq 5, 3) := by decide +kernel
theorem dL_law_730 : decode cL_law 730 = .ok (.iconst 0, 1) := by decide +kernel
theorem dL_law_731 : decode cL_law 731 = .ok (.ireturn, 1) := by decide +kernel
theorem dL_law_732 : decode cL_law 732 = .ok (.goto 65, 3) := by decide +kernel
theorem dL_law_735 : decode cL_law 735 = .ok (.aload_n 1, 1) := by decide +kernel
theorem dL_law_736 : decode cL_law 736 = .ok (.aload_n 0, 1) := by decide +kernel
theorem dL_law_737 : decode cL_law 737 = .ok (.iload 4, 2) := by decide +kernel
theorem dL_law_739 : decode cL_law 739 = .ok (.iconst 1, 1) := by decide +kernel
theorem dL_law_740 : decode cL_law 740 = .ok (.iadd, 1) := by decide +kernel
theorem dL_law_741 : decode cL_law 741 = .ok (.iaload, 1) := by decide +kernel
theorem dL_law_742 : decode cL_law 742 = .ok (.aload_n 0, 1) := by decide +kernel
theorem dL_law_743 : decode cL_law 743 = .ok (.iload 4, 2) := by decide +kernel
theorem dL_law_745 : decode cL_law 745 = .ok (.iconst 2, 1) := by decide +kernel
theorem dL_law_746 : decode cL_law 746 = .ok (.iadd, 1) := by decide +kernel
theorem dL_law_747 : decode cL_law 747 = .ok (.iaload, 1) := by decide +kernel
theorem dL_law_748 : decode cL_law 748 = .ok (.invokevirtual 89, 3) := by decide +kernel
theorem dL_law_751 : decode cL_law 751 = .ok (.aload_n 2, 1) := by decide +kernel
theorem dL_law_752 : decode cL_law 752 = .ok (.aload_n 0, 1) := by decide +kernel
theorem dL_law_753 : decode cL_law 753 = .ok (.iload 4, 2) := by decide +kernel
theorem dL_law_755 : decode cL_law 755 = .ok (.iconst 1, 1) := by decide +kernel
theorem dL_law_756 : decode cL_law 756 = .ok (.iadd, 1) := by decide +kernel
theorem dL_law_757 : decode cL_law 757 = .ok (.iaload, 1) := by decide +kernel
theorem dL_law_758 : decode cL_law 758 = .ok (.aload_n 0, 1) := by decide +kernel
theorem dL_law_759 : decode cL_law 759 = .ok (.iload 4, 2) := by decide +kernel
theorem dL_law_761 : decode cL_law 761 = .ok (.iconst 2, 1) := by decide +kernel
theorem dL_law_762 : decode cL_law 762 = .ok (.iadd, 1) := by decide +kernel
theorem dL_law_763 : decode cL_law 763 = .ok (.iaload, 1) := by decide +kernel
theorem dL_law_764 : decode cL_law 764 = .ok (.invokevirtual 92, 3) := by decide +kernel
theorem dL_law_767 : decode cL_law 767 = .ok (.if_icmp .eq 30, 3) := by decide +kernel
theorem dL_law_770 : decode cL_law 770 = .ok (.iconst 0, 1) := by decide +kernel
theorem dL_law_771 : decode cL_law 771 = .ok (.ireturn, 1) := by decide +kernel
theorem dL_law_772 : decode cL_law 772 = .ok (.aload_n 1, 1) := by decide +kernel
theorem dL_law_773 : decode cL_law 773 = .ok (.aload_n 0, 1) := by decide +kernel
theorem dL_law_774 : decode cL_law 774 = .ok (.iload 4, 2) := by decide +kernel
theorem dL_law_776 : decode cL_law 776 = .ok (.iconst 1, 1) := by decide +kernel
theorem dL_law_777 : decode cL_law 777 = .ok (.iadd, 1) := by decide +kernel
theorem dL_law_778 : decode cL_law 778 = .ok (.iaload, 1) := by decide +kernel
theorem dL_law_779 : decode cL_law 779 = .ok (.invokevirtual 93, 3) := by decide +kernel
theorem dL_law_782 : decode cL_law 782 = .ok (.aload_n 2, 1) := by decide +kernel
theorem dL_law_783 : decode cL_law 783 = .ok (.aload_n 0, 1) := by decide +kernel
theorem dL_law_784 : decode cL_law 784 = .ok (.iload 4, 2) := by decide +kernel
theorem dL_law_786 : decode cL_law 786 = .ok (.iconst 1, 1) := by decide +kernel
theorem dL_law_787 : decode cL_law 787 = .ok (.iadd, 1) := by decide +kernel
theorem dL_law_788 : decode cL_law 788 = .ok (.iaload, 1) := by decide +kernel
theorem dL_law_789 : decode cL_law 789 = .ok (.invokevirtual 96, 3) := by decide +kernel
theorem dL_law_792 : decode cL_law 792 = .ok (.if_icmp .eq 5, 3) := by decide +kernel
theorem dL_law_795 : decode cL_law 795 = .ok (.iconst 0, 1) := by decide +kernel
theorem dL_law_796 : decode cL_law 796 = .ok (.ireturn, 1) := by decide +kernel
theorem dL_law_797 : decode cL_law 797 = .ok (.iinc 4 7, 3) := by decide +kernel
theorem dL_law_800 : decode cL_law 800 = .ok (.goto (-777), 3) := by decide +kernel
theorem dL_law_803 : decode cL_law 803 = .ok (.iconst 1, 1) := by decide +kernel
theorem dL_law_804 : decode cL_law 804 = .ok (.ireturn, 1) := by decide +kernel
end
section
/-! THE WORLD: what a cell is by its address (kinds 0 .. 12: the objects of vwCl; 20 int[], 21 char[], 22 boolean[], 23 long[], 24 Cell[]), and what its slots hold -/
def TBg : List Cond := lw_tbl.filter goodWord
theorem TBg_in {w : Cond} (h : w ∈ lw_tbl) (g : goodWord w = true) : w ∈ TBg := List.mem_filter.mpr ⟨h, g⟩
theorem TBg_tbl {w : Cond} (h : w ∈ TBg) : w ∈ lw_tbl := (List.mem_filter.mp h).1
theorem TBg_good {w : Cond} (h : w ∈ TBg) : (w.onTables && w.keeps) = true ∨ ∃ ty, w = .arrayClass ty := good_of_word (List.mem_filter.mp h).2
theorem TBg_all {ws : List Cond} (h : ∀ w ∈ ws, w ∈ TBg) : GoodIn TBg ws := fun w hw => ⟨h w hw, TBg_good (h w hw)⟩
theorem TB1 {w : Cond} (i : Nat) (h : tables_1_1[i]? = some w) (g : goodWord w = true) : w ∈ TBg := TBg_in (List.mem_append_right _ (List.mem_append_left _ (List.mem_of_getElem? h))) g
theorem TB2 {w : Cond} (i : Nat) (h : tables_1_2[i]? = some w) (g : goodWord w = true) : w ∈ TBg := TBg_in (List.mem_append_right _ (List.mem_append_right _ (List.mem_append_left _ (List.mem_of_getElem? h)))) g
theorem TB3 {w : Cond} (i : Nat) (h : tables_1_3[i]? = some w) (g : goodWord w = true) : w ∈ TBg := TBg_in (List.mem_append_right _ (List.mem_append_right _ (List.mem_append_right _ (List.mem_append_left _ (List.mem_of_getElem? h))))) g
theorem TB4 {w : Cond} (i : Nat) (h : tables_1_4[i]? = some w) (g : goodWord w = true) : w ∈ TBg := TBg_in (List.mem_append_right _ (List.mem_append_right _ (List.mem_append_right _ (List.mem_append_right _ (List.mem_append_left _ (List.mem_of_getElem? h)))))) g
theorem TB5 {w : Cond} (i : Nat) (h : tables_1_5[i]? = some w) (g : goodWord w = true) : w ∈ TBg := TBg_in (List.mem_append_right _ (List.mem_append_right _ (List.mem_append_right _ (List.mem_append_right _ (List.mem_append_right _ (List.mem_append_left _ (List.mem_of_getElem? h))))))) g
theorem TB6 {w : Cond} (i : Nat) (h : tables_1_6[i]? = some w) (g : goodWord w = true) : w ∈ TBg := TBg_in (List.mem_append_right _ (List.mem_append_right _ (List.mem_append_right _ (List.mem_append_right _ (List.mem_append_right _ (List.mem_append_right _ (List.mem_append_left _ (List.mem_of_getElem? h)))))))) g
theorem TB7 {w : Cond} (i : Nat) (h : tables_1_7[i]? = some w) (g : goodWord w = true) : w ∈ TBg := TBg_in (List.mem_append_right _ (List.mem_append_right _ (List.mem_append_right _ (List.mem_append_right _ (List.mem_append_right _ (List.mem_append_right _ (List.mem_append_right _ (List.mem_of_getElem? h)))))))) g
theorem TBp {q : MethodName × Nat} (h : q ∈ lw_privs) : Cond.selects q.1.cls q.1 q.1 ∈ TBg := TBg_in (List.mem_append_left _ (List.mem_map.mpr ⟨q, h, rfl⟩)) rfl
abbrev sK : Type := Nat → Option (Nat × Nat)
abbrev sI : Type := Nat → Nat → Int32
abbrev sR : Type := Nat → Nat → Option Nat
abbrev sG : Type := Nat → Nat → Int64
def rfs : List (List Nat) := [[2], [0, 1, 2, 3], [0, 1, 2], [0, 1, 2, 3, 4, 5], [0, 1, 2], [0, 1, 3, 4, 5, 6, 7, 8, 10], [0, 1, 2, 3, 4], [0, 3, 4, 5, 9, 10, 11], [0, 1, 2, 3, 4, 5, 6], [0, 1, 2, 3, 4, 5], [0, 1, 2, 3, 4, 5], [0, 1, 2, 3, 4, 5, 6, 7, 8], [1, 4, 5, 6, 9, 10, 11, 12, 13, 15, 16, 17, 18, 20, 21, 22, 23, 24, 25, 26, 27, 28, 29, 30, 36, 38, 39, 40, 42]]
def isRf (k j : Nat) : Bool := (rfs.getD k []).contains j
def nfs : List Nat := [6, 5, 5, 7, 3, 12, 7, 13, 8, 9, 9, 9, 43]
def nf (k : Nat) : Nat := nfs.getD k 0
def oV (k : Nat) (ig : sI) (rg : sR) (a : Nat) : Nat → Value := fun j => if isRf k j = true then va_rf (rg a j) else .int (ig a j)
def aV (k : Nat) (ig : sI) (rg : sR) (lg : sG) (a : Nat) : Nat → Value := fun j => if k = 23 then .long (lg a j) else if k = 24 then va_rf (rg a j) else .int (ig a j)
def PWat (D : va_G) (cA : Nat → ClassId) (ig : sI) (rg : sR) (lg : sG) (a k n : Nat) (H : Heap) : Prop :=
  if k < 13 then t_OB a (D.1 k) (nf k) (D.2 k) H (oV k ig rg a) else H[a]? = some (arrV (cA k) n (aV k ig rg lg a))
def PW (D : va_G) (cA : Nat → ClassId) (kd : sK) (ig : sI) (rg : sR) (lg : sG) (H : Heap) : Prop := ∀ a k n, kd a = some (k, n) → PWat D cA ig rg lg a k n H
def WD (B : Nat) (D : va_G) (cA : Nat → ClassId) (H0 : Heap) (kd : sK) (ig : sI) (rg : sR) (lg : sG) (H : Heap) (locs : List Loc) : Prop :=
  PW D cA kd ig rg lg H ∧ (∀ a, kd a ≠ none → B ≤ a) ∧ va_S (fun q => B ≤ q) H0 H locs ∧ B ≤ H0.size
def up2 {α : Type} (f : Nat → Nat → α) (a j : Nat) (v : α) : Nat → Nat → α := fun b i => if b = a ∧ i = j then v else f b i
theorem up2_eq {α : Type} {f : Nat → Nat → α} {a j : Nat} {v : α} : up2 f a j v a j = v := by simp [up2]
theorem up2_a {α : Type} {f : Nat → Nat → α} {a b i j : Nat} {v : α} (h : b ≠ a) : up2 f a j v b i = f b i := by simp [up2, h]
theorem up2_j {α : Type} {f : Nat → Nat → α} {a b i j : Nat} {v : α} (h : i ≠ j) : up2 f a j v b i = f b i := by simp [up2, h]
def upK (kd : sK) (a k n : Nat) : sK := fun b => if b = a then some (k, n) else kd b
theorem upK_eq {kd : sK} {a k n : Nat} : upK kd a k n a = some (k, n) := by simp [upK]
theorem upK_ne {kd : sK} {a b k n : Nat} (h : b ≠ a) : upK kd a k n b = kd b := by simp [upK, h]
def upR {α : Type} (f : Nat → Nat → α) (a : Nat) (v : α) : Nat → Nat → α := fun b i => if b = a then v else f b i
theorem upR_eq {α : Type} {f : Nat → Nat → α} {a i : Nat} {v : α} : upR f a v a i = v := by simp [upR]
theorem upR_ne {α : Type} {f : Nat → Nat → α} {a b i : Nat} {v : α} (h : b ≠ a) : upR f a v b i = f b i := by simp [upR, h]
theorem oV_i {k j a : Nat} {ig : sI} {rg : sR} (h : isRf k j = false) : oV k ig rg a j = .int (ig a j) := by simp [oV, h]
theorem oV_r {k j a q : Nat} {ig : sI} {rg : sR} (h : isRf k j = true) (e : rg a j = some q) : oV k ig rg a j = .ref q := by simp [oV, h, e, va_rf]
theorem oV_n {k j a : Nat} {ig : sI} {rg : sR} (h : isRf k j = true) (e : rg a j = none) : oV k ig rg a j = .null := by simp [oV, h, e, va_rf]
theorem oV_q {k j a : Nat} {ig : sI} {rg : sR} (h : isRf k j = true) : oV k ig rg a j = va_rf (rg a j) := by simp [oV, h]
theorem PWat.lt {D : va_G} {cA : Nat → ClassId} {ig : sI} {rg : sR} {lg : sG} {a k n : Nat} {H : Heap} (h : PWat D cA ig rg lg a k n H) : a < H.size := by
  unfold PWat at h
  split at h
  · obtain ⟨cell, h2, -⟩ := h
    exact (Array.getElem?_eq_some_iff.mp h2).1
  · exact (Array.getElem?_eq_some_iff.mp h).1
theorem PWat.kept {D : va_G} {cA : Nat → ClassId} {ig ig' : sI} {rg rg' : sR} {lg lg' : sG} {a k n : Nat} {H H' : Heap} (h : PWat D cA ig rg lg a k n H) (hq : H'[a]? = H[a]?) (hi : ∀ j, ig' a j = ig a j) (hr : ∀ j, rg' a j = rg a j) (hl : ∀ j, lg' a j = lg a j) : PWat D cA ig' rg' lg' a k n H' := by
  unfold PWat at h ⊢
  split at h
  · rename_i hk
    rw [if_pos hk]
    exact (h.kept hq).to (fun j _ => by simp only [oV, hi, hr])
  · rename_i hk
    rw [if_neg hk, hq, h]
    congr 2
    funext j
    simp only [aV, hi, hr, hl]
theorem PW.put {D : va_G} {cA : Nat → ClassId} {kd : sK} {ig ig' : sI} {rg rg' : sR} {lg lg' : sG} {a k n : Nat} {H H' : Heap} (h : PW D cA kd ig rg lg H) (ha : kd a = some (k, n)) (hat : PWat D cA ig' rg' lg' a k n H') (e3 : ∀ q, q ≠ a → H'[q]? = H[q]?)
    (hi : ∀ b j, b ≠ a → ig' b j = ig b j) (hr : ∀ b j, b ≠ a → rg' b j = rg b j) (hl : ∀ b j, b ≠ a → lg' b j = lg b j) : PW D cA kd ig' rg' lg' H' := by
  intro b k' n' hb
  by_cases hba : b = a
  · subst hba
    rw [ha] at hb
    cases hb
    exact hat
  · exact (h b k' n' hb).kept (e3 b hba) (fun j => hi b j hba) (fun j => hr b j hba) (fun j => hl b j hba)
theorem PW.new {D : va_G} {cA : Nat → ClassId} {kd : sK} {ig ig' : sI} {rg rg' : sR} {lg lg' : sG} {k n : Nat} {H H' : Heap} (h : PW D cA kd ig rg lg H) (hat : PWat D cA ig' rg' lg' H.size k n H') (e3 : ∀ q, q < H.size → H'[q]? = H[q]?)
    (hi : ∀ b j, b ≠ H.size → ig' b j = ig b j) (hr : ∀ b j, b ≠ H.size → rg' b j = rg b j) (hl : ∀ b j, b ≠ H.size → lg' b j = lg b j) : PW D cA (upK kd H.size k n) ig' rg' lg' H' := by
  intro b k' n' hb
  by_cases hba : b = H.size
  · subst hba
    rw [upK_eq] at hb
    cases hb
    exact hat
  · rw [upK_ne hba] at hb
    have h1 := h b k' n' hb
    exact h1.kept (e3 b h1.lt) (fun j => hi b j hba) (fun j => hr b j hba) (fun j => hl b j hba)
def tysA (cA : Nat → ClassId) : List (ClassId × FieldType) := [(cA 20, .int), (cA 21, .char), (cA 22, .boolean), (cA 23, .long), (cA 24, .object "SheetDoctor$Cell")]
def NWs : List Cond := [.methodLinkNest RX6 42 yX11_onSheet RX11, .methodLinkNest RX5 93 yX11_setBit RX11, .methodLinkNest RX5 85 yX11_hasBit RX11, .methodLinkNest RX9 72 yX11_onSheet RX11, .methodLinkNest RX5 75 yX11_onSheet RX11, .methodLinkNest RX8 63 yX11_onSheet RX11, .methodLinkNest RX8 118 yX11_hasBit RX11, .methodLinkNest RX8 122 yX11_setBit RX11, .methodLinkNest RX2 46 yX11_onSheet RX11, .methodLinkNest RX10 65 yX11_onSheet RX11]
def KN (D : va_G) (cA : Nat → ClassId) (U : State) : Prop := va_K D vwCl (tysA cA) U ∧ (∀ w ∈ NWs, va_Nw w U) ∧ va_AO RX0 U
theorem KN.warm {D : va_G} {cA : Nat → ClassId} {s U : State} (hW : s.WarmedH U.vm) (h : KN D cA s) : KN D cA U := by
  refine ⟨va_K.moved hW.alike h.1, fun w hw => ?_, va_AO.moved hW.alike h.2.2⟩
  have h2 := h.2.1 w hw
  simp only [NWs, List.mem_cons, List.not_mem_nil, or_false] at hw
  rcases hw with e | e | e | e | e | e | e | e | e | e <;> (subst e; exact va_Nw.warmM hW h2)
theorem KN.same {D : va_G} {cA : Nat → ClassId} {s U : State} (hvm : s.vm = U.vm) (h : KN D cA s) : KN D cA U := by
  refine ⟨va_K.moved (hvm ▸ Vm.Alike.refl s.vm) h.1, fun w hw => ?_, va_AO.moved (hvm ▸ Vm.Alike.refl s.vm) h.2.2⟩
  have h2 := h.2.1 w hw
  simp only [NWs, List.mem_cons, List.not_mem_nil, or_false] at hw
  rcases hw with e | e | e | e | e | e | e | e | e | e <;> (subst e; exact va_Nw.same rfl hvm h2)
/-- a field by its place in the constant pool -/
def FL (own : String) (index k j : Nat) (fin : Bool) (ty : FieldType) : Prop :=
  ∃ (Cn : String) (T : u_T) (N : Nat) (t0 : Nat → FieldType), vwCl[k]? = some (Cn, T, N) ∧ j < N ∧ k < 13 ∧ nf k = N ∧ (∀ w ∈ u_ws Cn T N, w ∈ TBg) ∧ Cond.fieldLink own index (T j).1 (T j).2.1 (T j).2.2.1 ∈ TBg ∧ (T j).1 = Cn ∧
    (∀ q, q < N → parseFieldDescriptor (T q).2.2.1 = some (t0 q)) ∧ (∀ a, a < N → ∀ b, b < N → a ≠ b → (T a).2.1 ≠ (T b).2.1) ∧ (T j).2.2.2 = fin ∧ t0 j = ty
abbrev Cx (p : Program) (m : MethodId) (c : Code) (cc : ByteArray) (nL : Nat) (s : State) (args : Array Value) (own : String) (D : va_G) (cA : Nat → ClassId) : Prop := CallFix p m c cc nL s args TBg own ∧ KN D cA s
def SV (own : String) (index k : Nat) (y : MethodName) (cb : ByteArray) (maxL : Nat) (ret : Option FieldType) (na : Nat) : Prop :=
  Cond.methodLink own index y ∈ TBg ∧ Cond.instanceMethod y ∈ TBg ∧ Cond.selects y.cls y y ∈ TBg ∧ Cond.initialized y.cls ∈ TBg ∧ Cond.code y cb maxL ret ∈ TBg ∧ (∃ q, vwCl[k]? = some q ∧ q.1 = y.cls) ∧ k < 13 ∧ y.cls ≠ "java/lang/invoke/MethodHandle" ∧ y.cls ≠ "java/lang/invoke/VarHandle" ∧ (parseMethodDescriptor y.desc).map (fun d => d.parameters.length) = some na
def SS (own : String) (index : Nat) (y : MethodName) (cb : ByteArray) (maxL : Nat) (ret : Option FieldType) (na : Nat) : Prop :=
  Cond.methodLink own index y ∈ TBg ∧ Cond.static y ∈ TBg ∧ Cond.initialized y.cls ∈ TBg ∧ Cond.code y cb maxL ret ∈ TBg ∧ y.cls ≠ "java/lang/invoke/MethodHandle" ∧ y.cls ≠ "java/lang/invoke/VarHandle" ∧ (parseMethodDescriptor y.desc).map (fun d => d.parameters.length) = some na
def SN (own : String) (index : Nat) (y : MethodName) (host : String) (cb : ByteArray) (maxL : Nat) (ret : Option FieldType) (na : Nat) : Prop :=
  Cond.methodLinkNest own index y host ∈ NWs ∧ Cond.static y ∈ TBg ∧ Cond.initialized y.cls ∈ TBg ∧ Cond.code y cb maxL ret ∈ TBg ∧ y.cls ≠ "java/lang/invoke/MethodHandle" ∧ y.cls ≠ "java/lang/invoke/VarHandle" ∧ (parseMethodDescriptor y.desc).map (fun d => d.parameters.length) = some na
def SC (own : String) (index : Nat) (y : MethodName) (cb : ByteArray) (maxL : Nat) (na : Nat) : Prop :=
  Cond.methodLink own index y ∈ TBg ∧ Cond.instanceMethod y ∈ TBg ∧ Cond.initialized y.cls ∈ TBg ∧ Cond.code y cb maxL none ∈ TBg ∧ y.name = "<init>" ∧ y.cls ≠ "java/lang/invoke/MethodHandle" ∧ y.cls ≠ "java/lang/invoke/VarHandle" ∧ (parseMethodDescriptor y.desc).map (fun d => d.parameters.length) = some na
end
section
theorem TBp1 {q : MethodName × Nat} (i : Nat) (h : lw_privs_1[i]? = some q) : Cond.selects q.1.cls q.1 q.1 ∈ TBg := TBp (List.mem_append_left _ (List.mem_of_getElem? h))
theorem TBp2 {q : MethodName × Nat} (i : Nat) (h : lw_privs_2[i]? = some q) : Cond.selects q.1.cls q.1 q.1 ∈ TBg := TBp (List.mem_append_right _ (List.mem_append_left _ (List.mem_of_getElem? h)))
theorem TBp3 {q : MethodName × Nat} (i : Nat) (h : lw_privs_3[i]? = some q) : Cond.selects q.1.cls q.1 q.1 ∈ TBg := TBp (List.mem_append_right _ (List.mem_append_right _ (List.mem_append_left _ (List.mem_of_getElem? h))))
theorem TBp4 {q : MethodName × Nat} (i : Nat) (h : lw_privs_4[i]? = some q) : Cond.selects q.1.cls q.1 q.1 ∈ TBg := TBp (List.mem_append_right _ (List.mem_append_right _ (List.mem_append_right _ (List.mem_append_left _ (List.mem_of_getElem? h)))))
theorem TBp5 {q : MethodName × Nat} (i : Nat) (h : lw_privs_5[i]? = some q) : Cond.selects q.1.cls q.1 q.1 ∈ TBg := TBp (List.mem_append_right _ (List.mem_append_right _ (List.mem_append_right _ (List.mem_append_right _ (List.mem_append_left _ (List.mem_of_getElem? h))))))
theorem TBp6 {q : MethodName × Nat} (i : Nat) (h : lw_privs_6[i]? = some q) : Cond.selects q.1.cls q.1 q.1 ∈ TBg := TBp (List.mem_append_right _ (List.mem_append_right _ (List.mem_append_right _ (List.mem_append_right _ (List.mem_append_right _ (List.mem_append_left _ (List.mem_of_getElem? h)))))))
theorem TBp7 {q : MethodName × Nat} (i : Nat) (h : lw_privs_7[i]? = some q) : Cond.selects q.1.cls q.1 q.1 ∈ TBg := TBp (List.mem_append_right _ (List.mem_append_right _ (List.mem_append_right _ (List.mem_append_right _ (List.mem_append_right _ (List.mem_append_right _ (List.mem_of_getElem? h)))))))
set_option maxRecDepth 20000 in
theorem inT0 : ∀ w ∈ u_ws RX0 TX0 6, w ∈ TBg := fun w h => (List.forall_mem_cons.mpr ⟨(TB1 110 rfl rfl : u_lay RX0 TX0 0 ∈ TBg), List.forall_mem_cons.mpr ⟨(TB1 112 rfl rfl : u_lay RX0 TX0 1 ∈ TBg), List.forall_mem_cons.mpr ⟨(TB1 114 rfl rfl : u_lay RX0 TX0 2 ∈ TBg), List.forall_mem_cons.mpr ⟨(TB1 116 rfl rfl : u_lay RX0 TX0 3 ∈ TBg), List.forall_mem_cons.mpr ⟨(TB1 118 rfl rfl : u_lay RX0 TX0 4 ∈ TBg), List.forall_mem_cons.mpr ⟨(TB1 120 rfl rfl : u_lay RX0 TX0 5 ∈ TBg), fun _ h => absurd h List.not_mem_nil⟩⟩⟩⟩⟩⟩ : ∀ w ∈ [u_lay RX0 TX0 0, u_lay RX0 TX0 1, u_lay RX0 TX0 2, u_lay RX0 TX0 3, u_lay RX0 TX0 4, u_lay RX0 TX0 5], w ∈ TBg) w h
set_option maxRecDepth 20000 in
theorem inT1 : ∀ w ∈ u_ws RX1 TX1 5, w ∈ TBg := fun w h => (List.forall_mem_cons.mpr ⟨(TB2 119 rfl rfl : u_lay RX1 TX1 0 ∈ TBg), List.forall_mem_cons.mpr ⟨(TB2 121 rfl rfl : u_lay RX1 TX1 1 ∈ TBg), List.forall_mem_cons.mpr ⟨(TB2 123 rfl rfl : u_lay RX1 TX1 2 ∈ TBg), List.forall_mem_cons.mpr ⟨(TB2 125 rfl rfl : u_lay RX1 TX1 3 ∈ TBg), List.forall_mem_cons.mpr ⟨(TB2 127 rfl rfl : u_lay RX1 TX1 4 ∈ TBg), fun _ h => absurd h List.not_mem_nil⟩⟩⟩⟩⟩ : ∀ w ∈ [u_lay RX1 TX1 0, u_lay RX1 TX1 1, u_lay RX1 TX1 2, u_lay RX1 TX1 3, u_lay RX1 TX1 4], w ∈ TBg) w h
set_option maxRecDepth 20000 in
theorem inT2 : ∀ w ∈ u_ws RX2 TX2 5, w ∈ TBg := fun w h => (List.forall_mem_cons.mpr ⟨(TB2 4 rfl rfl : u_lay RX2 TX2 0 ∈ TBg), List.forall_mem_cons.mpr ⟨(TB2 6 rfl rfl : u_lay RX2 TX2 1 ∈ TBg), List.forall_mem_cons.mpr ⟨(TB2 8 rfl rfl : u_lay RX2 TX2 2 ∈ TBg), List.forall_mem_cons.mpr ⟨(TB2 10 rfl rfl : u_lay RX2 TX2 3 ∈ TBg), List.forall_mem_cons.mpr ⟨(TB2 12 rfl rfl : u_lay RX2 TX2 4 ∈ TBg), fun _ h => absurd h List.not_mem_nil⟩⟩⟩⟩⟩ : ∀ w ∈ [u_lay RX2 TX2 0, u_lay RX2 TX2 1, u_lay RX2 TX2 2, u_lay RX2 TX2 3, u_lay RX2 TX2 4], w ∈ TBg) w h
set_option maxRecDepth 20000 in
theorem inT3 : ∀ w ∈ u_ws RX3 TX3 7, w ∈ TBg := fun w h => (List.forall_mem_cons.mpr ⟨(TB2 93 rfl rfl : u_lay RX3 TX3 0 ∈ TBg), List.forall_mem_cons.mpr ⟨(TB2 95 rfl rfl : u_lay RX3 TX3 1 ∈ TBg), List.forall_mem_cons.mpr ⟨(TB2 97 rfl rfl : u_lay RX3 TX3 2 ∈ TBg), List.forall_mem_cons.mpr ⟨(TB2 99 rfl rfl : u_lay RX3 TX3 3 ∈ TBg), List.forall_mem_cons.mpr ⟨(TB2 101 rfl rfl : u_lay RX3 TX3 4 ∈ TBg), List.forall_mem_cons.mpr ⟨(TB2 103 rfl rfl : u_lay RX3 TX3 5 ∈ TBg), List.forall_mem_cons.mpr ⟨(TB2 105 rfl rfl : u_lay RX3 TX3 6 ∈ TBg), fun _ h => absurd h List.not_mem_nil⟩⟩⟩⟩⟩⟩⟩ : ∀ w ∈ [u_lay RX3 TX3 0, u_lay RX3 TX3 1, u_lay RX3 TX3 2, u_lay RX3 TX3 3, u_lay RX3 TX3 4, u_lay RX3 TX3 5, u_lay RX3 TX3 6], w ∈ TBg) w h
set_option maxRecDepth 20000 in
theorem inT4 : ∀ w ∈ u_ws RX4 TX4 3, w ∈ TBg := fun w h => (List.forall_mem_cons.mpr ⟨(TB3 149 rfl rfl : u_lay RX4 TX4 0 ∈ TBg), List.forall_mem_cons.mpr ⟨(TB3 151 rfl rfl : u_lay RX4 TX4 1 ∈ TBg), List.forall_mem_cons.mpr ⟨(TB3 153 rfl rfl : u_lay RX4 TX4 2 ∈ TBg), fun _ h => absurd h List.not_mem_nil⟩⟩⟩ : ∀ w ∈ [u_lay RX4 TX4 0, u_lay RX4 TX4 1, u_lay RX4 TX4 2], w ∈ TBg) w h
set_option maxRecDepth 20000 in
theorem inT5 : ∀ w ∈ u_ws RX5 TX5 12, w ∈ TBg := fun w h => (List.forall_mem_cons.mpr ⟨(TB1 172 rfl rfl : u_lay RX5 TX5 0 ∈ TBg), List.forall_mem_cons.mpr ⟨(TB1 174 rfl rfl : u_lay RX5 TX5 1 ∈ TBg), List.forall_mem_cons.mpr ⟨(TB1 176 rfl rfl : u_lay RX5 TX5 2 ∈ TBg), List.forall_mem_cons.mpr ⟨(TB1 178 rfl rfl : u_lay RX5 TX5 3 ∈ TBg), List.forall_mem_cons.mpr ⟨(TB1 180 rfl rfl : u_lay RX5 TX5 4 ∈ TBg), List.forall_mem_cons.mpr ⟨(TB1 182 rfl rfl : u_lay RX5 TX5 5 ∈ TBg), List.forall_mem_cons.mpr ⟨(TB1 184 rfl rfl : u_lay RX5 TX5 6 ∈ TBg), List.forall_mem_cons.mpr ⟨(TB1 186 rfl rfl : u_lay RX5 TX5 7 ∈ TBg), List.forall_mem_cons.mpr ⟨(TB1 188 rfl rfl : u_lay RX5 TX5 8 ∈ TBg), List.forall_mem_cons.mpr ⟨(TB1 190 rfl rfl : u_lay RX5 TX5 9 ∈ TBg), List.forall_mem_cons.mpr ⟨(TB1 192 rfl rfl : u_lay RX5 TX5 10 ∈ TBg), List.forall_mem_cons.mpr ⟨(TB1 194 rfl rfl : u_lay RX5 TX5 11 ∈ TBg), fun _ h => absurd h List.not_mem_nil⟩⟩⟩⟩⟩⟩⟩⟩⟩⟩⟩⟩ : ∀ w ∈ [u_lay RX5 TX5 0, u_lay RX5 TX5 1, u_lay RX5 TX5 2, u_lay RX5 TX5 3, u_lay RX5 TX5 4, u_lay RX5 TX5 5, u_lay RX5 TX5 6, u_lay RX5 TX5 7, u_lay RX5 TX5 8, u_lay RX5 TX5 9, u_lay RX5 TX5 10, u_lay RX5 TX5 11], w ∈ TBg) w h
set_option maxRecDepth 20000 in
theorem inT6 : ∀ w ∈ u_ws RX6 TX6 7, w ∈ TBg := fun w h => (List.forall_mem_cons.mpr ⟨(TB1 138 rfl rfl : u_lay RX6 TX6 0 ∈ TBg), List.forall_mem_cons.mpr ⟨(TB1 140 rfl rfl : u_lay RX6 TX6 1 ∈ TBg), List.forall_mem_cons.mpr ⟨(TB1 142 rfl rfl : u_lay RX6 TX6 2 ∈ TBg), List.forall_mem_cons.mpr ⟨(TB1 144 rfl rfl : u_lay RX6 TX6 3 ∈ TBg), List.forall_mem_cons.mpr ⟨(TB1 146 rfl rfl : u_lay RX6 TX6 4 ∈ TBg), List.forall_mem_cons.mpr ⟨(TB1 148 rfl rfl : u_lay RX6 TX6 5 ∈ TBg), List.forall_mem_cons.mpr ⟨(TB1 150 rfl rfl : u_lay RX6 TX6 6 ∈ TBg), fun _ h => absurd h List.not_mem_nil⟩⟩⟩⟩⟩⟩⟩ : ∀ w ∈ [u_lay RX6 TX6 0, u_lay RX6 TX6 1, u_lay RX6 TX6 2, u_lay RX6 TX6 3, u_lay RX6 TX6 4, u_lay RX6 TX6 5, u_lay RX6 TX6 6], w ∈ TBg) w h
set_option maxRecDepth 20000 in
theorem inT7 : ∀ w ∈ u_ws RX7 TX7 13, w ∈ TBg := fun w h => (List.forall_mem_cons.mpr ⟨(TB1 56 rfl rfl : u_lay RX7 TX7 0 ∈ TBg), List.forall_mem_cons.mpr ⟨(TB1 58 rfl rfl : u_lay RX7 TX7 1 ∈ TBg), List.forall_mem_cons.mpr ⟨(TB1 60 rfl rfl : u_lay RX7 TX7 2 ∈ TBg), List.forall_mem_cons.mpr ⟨(TB1 62 rfl rfl : u_lay RX7 TX7 3 ∈ TBg), List.forall_mem_cons.mpr ⟨(TB1 64 rfl rfl : u_lay RX7 TX7 4 ∈ TBg), List.forall_mem_cons.mpr ⟨(TB1 66 rfl rfl : u_lay RX7 TX7 5 ∈ TBg), List.forall_mem_cons.mpr ⟨(TB1 68 rfl rfl : u_lay RX7 TX7 6 ∈ TBg), List.forall_mem_cons.mpr ⟨(TB1 70 rfl rfl : u_lay RX7 TX7 7 ∈ TBg), List.forall_mem_cons.mpr ⟨(TB1 72 rfl rfl : u_lay RX7 TX7 8 ∈ TBg), List.forall_mem_cons.mpr ⟨(TB1 74 rfl rfl : u_lay RX7 TX7 9 ∈ TBg), List.forall_mem_cons.mpr ⟨(TB1 76 rfl rfl : u_lay RX7 TX7 10 ∈ TBg), List.forall_mem_cons.mpr ⟨(TB1 78 rfl rfl : u_lay RX7 TX7 11 ∈ TBg), List.forall_mem_cons.mpr ⟨(TB1 80 rfl rfl : u_lay RX7 TX7 12 ∈ TBg), fun _ h => absurd h List.not_mem_nil⟩⟩⟩⟩⟩⟩⟩⟩⟩⟩⟩⟩⟩ : ∀ w ∈ [u_lay RX7 TX7 0, u_lay RX7 TX7 1, u_lay RX7 TX7 2, u_lay RX7 TX7 3, u_lay RX7 TX7 4, u_lay RX7 TX7 5, u_lay RX7 TX7 6, u_lay RX7 TX7 7, u_lay RX7 TX7 8, u_lay RX7 TX7 9, u_lay RX7 TX7 10, u_lay RX7 TX7 11, u_lay RX7 TX7 12], w ∈ TBg) w h
set_option maxRecDepth 20000 in
theorem inT8 : ∀ w ∈ u_ws RX8 TX8 8, w ∈ TBg := fun w h => (List.forall_mem_cons.mpr ⟨(TB2 63 rfl rfl : u_lay RX8 TX8 0 ∈ TBg), List.forall_mem_cons.mpr ⟨(TB2 65 rfl rfl : u_lay RX8 TX8 1 ∈ TBg), List.forall_mem_cons.mpr ⟨(TB2 67 rfl rfl : u_lay RX8 TX8 2 ∈ TBg), List.forall_mem_cons.mpr ⟨(TB2 69 rfl rfl : u_lay RX8 TX8 3 ∈ TBg), List.forall_mem_cons.mpr ⟨(TB2 71 rfl rfl : u_lay RX8 TX8 4 ∈ TBg), List.forall_mem_cons.mpr ⟨(TB2 73 rfl rfl : u_lay RX8 TX8 5 ∈ TBg), List.forall_mem_cons.mpr ⟨(TB2 75 rfl rfl : u_lay RX8 TX8 6 ∈ TBg), List.forall_mem_cons.mpr ⟨(TB2 77 rfl rfl : u_lay RX8 TX8 7 ∈ TBg), fun _ h => absurd h List.not_mem_nil⟩⟩⟩⟩⟩⟩⟩⟩ : ∀ w ∈ [u_lay RX8 TX8 0, u_lay RX8 TX8 1, u_lay RX8 TX8 2, u_lay RX8 TX8 3, u_lay RX8 TX8 4, u_lay RX8 TX8 5, u_lay RX8 TX8 6, u_lay RX8 TX8 7], w ∈ TBg) w h
set_option maxRecDepth 20000 in
theorem inT9 : ∀ w ∈ u_ws RX9 TX9 9, w ∈ TBg := fun w h => (List.forall_mem_cons.mpr ⟨(TB2 30 rfl rfl : u_lay RX9 TX9 0 ∈ TBg), List.forall_mem_cons.mpr ⟨(TB2 32 rfl rfl : u_lay RX9 TX9 1 ∈ TBg), List.forall_mem_cons.mpr ⟨(TB2 34 rfl rfl : u_lay RX9 TX9 2 ∈ TBg), List.forall_mem_cons.mpr ⟨(TB2 36 rfl rfl : u_lay RX9 TX9 3 ∈ TBg), List.forall_mem_cons.mpr ⟨(TB2 38 rfl rfl : u_lay RX9 TX9 4 ∈ TBg), List.forall_mem_cons.mpr ⟨(TB2 40 rfl rfl : u_lay RX9 TX9 5 ∈ TBg), List.forall_mem_cons.mpr ⟨(TB2 42 rfl rfl : u_lay RX9 TX9 6 ∈ TBg), List.forall_mem_cons.mpr ⟨(TB2 44 rfl rfl : u_lay RX9 TX9 7 ∈ TBg), List.forall_mem_cons.mpr ⟨(TB2 46 rfl rfl : u_lay RX9 TX9 8 ∈ TBg), fun _ h => absurd h List.not_mem_nil⟩⟩⟩⟩⟩⟩⟩⟩⟩ : ∀ w ∈ [u_lay RX9 TX9 0, u_lay RX9 TX9 1, u_lay RX9 TX9 2, u_lay RX9 TX9 3, u_lay RX9 TX9 4, u_lay RX9 TX9 5, u_lay RX9 TX9 6, u_lay RX9 TX9 7, u_lay RX9 TX9 8], w ∈ TBg) w h
set_option maxRecDepth 20000 in
theorem inT10 : ∀ w ∈ u_ws RX10 TX10 9, w ∈ TBg := fun w h => (List.forall_mem_cons.mpr ⟨(TB1 213 rfl rfl : u_lay RX10 TX10 0 ∈ TBg), List.forall_mem_cons.mpr ⟨(TB1 215 rfl rfl : u_lay RX10 TX10 1 ∈ TBg), List.forall_mem_cons.mpr ⟨(TB1 217 rfl rfl : u_lay RX10 TX10 2 ∈ TBg), List.forall_mem_cons.mpr ⟨(TB1 219 rfl rfl : u_lay RX10 TX10 3 ∈ TBg), List.forall_mem_cons.mpr ⟨(TB1 221 rfl rfl : u_lay RX10 TX10 4 ∈ TBg), List.forall_mem_cons.mpr ⟨(TB1 223 rfl rfl : u_lay RX10 TX10 5 ∈ TBg), List.forall_mem_cons.mpr ⟨(TB1 225 rfl rfl : u_lay RX10 TX10 6 ∈ TBg), List.forall_mem_cons.mpr ⟨(TB1 227 rfl rfl : u_lay RX10 TX10 7 ∈ TBg), List.forall_mem_cons.mpr ⟨(TB1 229 rfl rfl : u_lay RX10 TX10 8 ∈ TBg), fun _ h => absurd h List.not_mem_nil⟩⟩⟩⟩⟩⟩⟩⟩⟩ : ∀ w ∈ [u_lay RX10 TX10 0, u_lay RX10 TX10 1, u_lay RX10 TX10 2, u_lay RX10 TX10 3, u_lay RX10 TX10 4, u_lay RX10 TX10 5, u_lay RX10 TX10 6, u_lay RX10 TX10 7, u_lay RX10 TX10 8], w ∈ TBg) w h
set_option maxRecDepth 20000 in
theorem inT11 : ∀ w ∈ u_ws RX11 TX11 9, w ∈ TBg := fun w h => (List.forall_mem_cons.mpr ⟨(TB2 139 rfl rfl : u_lay RX11 TX11 0 ∈ TBg), List.forall_mem_cons.mpr ⟨(TB2 141 rfl rfl : u_lay RX11 TX11 1 ∈ TBg), List.forall_mem_cons.mpr ⟨(TB2 143 rfl rfl : u_lay RX11 TX11 2 ∈ TBg), List.forall_mem_cons.mpr ⟨(TB2 145 rfl rfl : u_lay RX11 TX11 3 ∈ TBg), List.forall_mem_cons.mpr ⟨(TB2 147 rfl rfl : u_lay RX11 TX11 4 ∈ TBg), List.forall_mem_cons.mpr ⟨(TB2 149 rfl rfl : u_lay RX11 TX11 5 ∈ TBg), List.forall_mem_cons.mpr ⟨(TB2 151 rfl rfl : u_lay RX11 TX11 6 ∈ TBg), List.forall_mem_cons.mpr ⟨(TB2 153 rfl rfl : u_lay RX11 TX11 7 ∈ TBg), List.forall_mem_cons.mpr ⟨(TB2 155 rfl rfl : u_lay RX11 TX11 8 ∈ TBg), fun _ h => absurd h List.not_mem_nil⟩⟩⟩⟩⟩⟩⟩⟩⟩ : ∀ w ∈ [u_lay RX11 TX11 0, u_lay RX11 TX11 1, u_lay RX11 TX11 2, u_lay RX11 TX11 3, u_lay RX11 TX11 4, u_lay RX11 TX11 5, u_lay RX11 TX11 6, u_lay RX11 TX11 7, u_lay RX11 TX11 8], w ∈ TBg) w h
set_option maxRecDepth 20000 in
theorem inT12 : ∀ w ∈ u_ws RX12 TX12 43, w ∈ TBg := fun w h => (List.forall_mem_cons.mpr ⟨(TB6 74 rfl rfl : u_lay RX12 TX12 0 ∈ TBg), List.forall_mem_cons.mpr ⟨(TB6 76 rfl rfl : u_lay RX12 TX12 1 ∈ TBg), List.forall_mem_cons.mpr ⟨(TB6 78 rfl rfl : u_lay RX12 TX12 2 ∈ TBg), List.forall_mem_cons.mpr ⟨(TB6 80 rfl rfl : u_lay RX12 TX12 3 ∈ TBg), List.forall_mem_cons.mpr ⟨(TB6 82 rfl rfl : u_lay RX12 TX12 4 ∈ TBg), List.forall_mem_cons.mpr ⟨(TB6 84 rfl rfl : u_lay RX12 TX12 5 ∈ TBg), List.forall_mem_cons.mpr ⟨(TB6 86 rfl rfl : u_lay RX12 TX12 6 ∈ TBg), List.forall_mem_cons.mpr ⟨(TB6 88 rfl rfl : u_lay RX12 TX12 7 ∈ TBg), List.forall_mem_cons.mpr ⟨(TB6 90 rfl rfl : u_lay RX12 TX12 8 ∈ TBg), List.forall_mem_cons.mpr ⟨(TB6 92 rfl rfl : u_lay RX12 TX12 9 ∈ TBg), List.forall_mem_cons.mpr ⟨(TB6 94 rfl rfl : u_lay RX12 TX12 10 ∈ TBg), List.forall_mem_cons.mpr ⟨(TB6 96 rfl rfl : u_lay RX12 TX12 11 ∈ TBg), List.forall_mem_cons.mpr ⟨(TB6 98 rfl rfl : u_lay RX12 TX12 12 ∈ TBg), List.forall_mem_cons.mpr ⟨(TB6 100 rfl rfl : u_lay RX12 TX12 13 ∈ TBg), List.forall_mem_cons.mpr ⟨(TB6 102 rfl rfl : u_lay RX12 TX12 14 ∈ TBg), List.forall_mem_cons.mpr ⟨(TB6 104 rfl rfl : u_lay RX12 TX12 15 ∈ TBg), List.forall_mem_cons.mpr ⟨(TB6 106 rfl rfl : u_lay RX12 TX12 16 ∈ TBg), List.forall_mem_cons.mpr ⟨(TB6 108 rfl rfl : u_lay RX12 TX12 17 ∈ TBg), List.forall_mem_cons.mpr ⟨(TB6 110 rfl rfl : u_lay RX12 TX12 18 ∈ TBg), List.forall_mem_cons.mpr ⟨(TB6 112 rfl rfl : u_lay RX12 TX12 19 ∈ TBg), List.forall_mem_cons.mpr ⟨(TB6 114 rfl rfl : u_lay RX12 TX12 20 ∈ TBg), List.forall_mem_cons.mpr ⟨(TB6 116 rfl rfl : u_lay RX12 TX12 21 ∈ TBg), List.forall_mem_cons.mpr ⟨(TB6 118 rfl rfl : u_lay RX12 TX12 22 ∈ TBg), List.forall_mem_cons.mpr ⟨(TB6 120 rfl rfl : u_lay RX12 TX12 23 ∈ TBg), List.forall_mem_cons.mpr ⟨(TB6 122 rfl rfl : u_lay RX12 TX12 24 ∈ TBg), List.forall_mem_cons.mpr ⟨(TB6 124 rfl rfl : u_lay RX12 TX12 25 ∈ TBg), List.forall_mem_cons.mpr ⟨(TB6 126 rfl rfl : u_lay RX12 TX12 26 ∈ TBg), List.forall_mem_cons.mpr ⟨(TB6 128 rfl rfl : u_lay RX12 TX12 27 ∈ TBg), List.forall_mem_cons.mpr ⟨(TB6 130 rfl rfl : u_lay RX12 TX12 28 ∈ TBg), List.forall_mem_cons.mpr ⟨(TB6 132 rfl rfl : u_lay RX12 TX12 29 ∈ TBg), List.forall_mem_cons.mpr ⟨(TB6 134 rfl rfl : u_lay RX12 TX12 30 ∈ TBg), List.forall_mem_cons.mpr ⟨(TB6 136 rfl rfl : u_lay RX12 TX12 31 ∈ TBg), List.forall_mem_cons.mpr ⟨(TB6 138 rfl rfl : u_lay RX12 TX12 32 ∈ TBg), List.forall_mem_cons.mpr ⟨(TB6 140 rfl rfl : u_lay RX12 TX12 33 ∈ TBg), List.forall_mem_cons.mpr ⟨(TB6 142 rfl rfl : u_lay RX12 TX12 34 ∈ TBg), List.forall_mem_cons.mpr ⟨(TB6 144 rfl rfl : u_lay RX12 TX12 35 ∈ TBg), List.forall_mem_cons.mpr ⟨(TB6 146 rfl rfl : u_lay RX12 TX12 36 ∈ TBg), List.forall_mem_cons.mpr ⟨(TB6 148 rfl rfl : u_lay RX12 TX12 37 ∈ TBg), List.forall_mem_cons.mpr ⟨(TB6 150 rfl rfl : u_lay RX12 TX12 38 ∈ TBg), List.forall_mem_cons.mpr ⟨(TB6 152 rfl rfl : u_lay RX12 TX12 39 ∈ TBg), List.forall_mem_cons.mpr ⟨(TB6 154 rfl rfl : u_lay RX12 TX12 40 ∈ TBg), List.forall_mem_cons.mpr ⟨(TB6 156 rfl rfl : u_lay RX12 TX12 41 ∈ TBg), List.forall_mem_cons.mpr ⟨(TB6 158 rfl rfl : u_lay RX12 TX12 42 ∈ TBg), fun _ h => absurd h List.not_mem_nil⟩⟩⟩⟩⟩⟩⟩⟩⟩⟩⟩⟩⟩⟩⟩⟩⟩⟩⟩⟩⟩⟩⟩⟩⟩⟩⟩⟩⟩⟩⟩⟩⟩⟩⟩⟩⟩⟩⟩⟩⟩⟩⟩ : ∀ w ∈ [u_lay RX12 TX12 0, u_lay RX12 TX12 1, u_lay RX12 TX12 2, u_lay RX12 TX12 3, u_lay RX12 TX12 4, u_lay RX12 TX12 5, u_lay RX12 TX12 6, u_lay RX12 TX12 7, u_lay RX12 TX12 8, u_lay RX12 TX12 9, u_lay RX12 TX12 10, u_lay RX12 TX12 11, u_lay RX12 TX12 12, u_lay RX12 TX12 13, u_lay RX12 TX12 14, u_lay RX12 TX12 15, u_lay RX12 TX12 16, u_lay RX12 TX12 17, u_lay RX12 TX12 18, u_lay RX12 TX12 19, u_lay RX12 TX12 20, u_lay RX12 TX12 21, u_lay RX12 TX12 22, u_lay RX12 TX12 23, u_lay RX12 TX12 24, u_lay RX12 TX12 25, u_lay RX12 TX12 26, u_lay RX12 TX12 27, u_lay RX12 TX12 28, u_lay RX12 TX12 29, u_lay RX12 TX12 30, u_lay RX12 TX12 31, u_lay RX12 TX12 32, u_lay RX12 TX12 33, u_lay RX12 TX12 34, u_lay RX12 TX12 35, u_lay RX12 TX12 36, u_lay RX12 TX12 37, u_lay RX12 TX12 38, u_lay RX12 TX12 39, u_lay RX12 TX12 40, u_lay RX12 TX12 41, u_lay RX12 TX12 42], w ∈ TBg) w h
theorem fl_X11_12 : FL RX11 12 11 0 true (.object "SheetDoctor$Tape") := ⟨RX11, TX11, 9, tyX11, rfl, by decide, by decide, rfl, inT11, TB2 130 rfl rfl, rfl, tyX11_ok, nmX11, rfl, rfl⟩
theorem fl_X11_19 : FL RX11 19 11 1 true (.object "SheetDoctor$Sheet") := ⟨RX11, TX11, 9, tyX11, rfl, by decide, by decide, rfl, inT11, TB2 131 rfl rfl, rfl, tyX11_ok, nmX11, rfl, rfl⟩
theorem fl_X11_28 : FL RX11 28 11 2 true (.object "SheetDoctor$Links") := ⟨RX11, TX11, 9, tyX11, rfl, by decide, by decide, rfl, inT11, TB2 132 rfl rfl, rfl, tyX11_ok, nmX11, rfl, rfl⟩
theorem fl_X11_37 : FL RX11 37 11 3 true (.object "SheetDoctor$Values") := ⟨RX11, TX11, 9, tyX11, rfl, by decide, by decide, rfl, inT11, TB2 133 rfl rfl, rfl, tyX11_ok, nmX11, rfl, rfl⟩
theorem fl_X11_44 : FL RX11 44 11 4 true (.object "SheetDoctor$Families") := ⟨RX11, TX11, 9, tyX11, rfl, by decide, by decide, rfl, inT11, TB2 134 rfl rfl, rfl, tyX11_ok, nmX11, rfl, rfl⟩
theorem fl_X11_51 : FL RX11 51 11 5 true (.object "SheetDoctor$Units") := ⟨RX11, TX11, 9, tyX11, rfl, by decide, by decide, rfl, inT11, TB2 135 rfl rfl, rfl, tyX11_ok, nmX11, rfl, rfl⟩
theorem fl_X11_58 : FL RX11 58 11 6 true (.object "SheetDoctor$Totals") := ⟨RX11, TX11, 9, tyX11, rfl, by decide, by decide, rfl, inT11, TB2 136 rfl rfl, rfl, tyX11_ok, nmX11, rfl, rfl⟩
theorem fl_X11_67 : FL RX11 67 11 7 true (.object "SheetDoctor$Findings") := ⟨RX11, TX11, 9, tyX11, rfl, by decide, by decide, rfl, inT11, TB2 137 rfl rfl, rfl, tyX11_ok, nmX11, rfl, rfl⟩
theorem fl_X11_76 : FL RX11 76 11 8 true (.object "SheetDoctor$Changes") := ⟨RX11, TX11, 9, tyX11, rfl, by decide, by decide, rfl, inT11, TB2 138 rfl rfl, rfl, tyX11_ok, nmX11, rfl, rfl⟩
theorem fl_X11_84 : FL RX11 84 7 1 false .int := ⟨RX7, TX7, 13, tyX7, rfl, by decide, by decide, rfl, inT7, TB1 43 rfl rfl, rfl, tyX7_ok, nmX7, rfl, rfl⟩
theorem fl_X11_96 : FL RX11 96 7 8 false .int := ⟨RX7, TX7, 13, tyX7, rfl, by decide, by decide, rfl, inT7, TB1 51 rfl rfl, rfl, tyX7_ok, nmX7, rfl, rfl⟩
theorem fl_X11_108 : FL RX11 108 6 0 true (.object "SheetDoctor$Cell") := ⟨RX6, TX6, 7, tyX6, rfl, by decide, by decide, rfl, inT6, TB1 125 rfl rfl, rfl, tyX6_ok, nmX6, rfl, rfl⟩
theorem fl_X11_127 : FL RX11 127 0 1 true .int := ⟨RX0, TX0, 6, tyX0, rfl, by decide, by decide, rfl, inT0, TB1 101 rfl rfl, rfl, tyX0_ok, nmX0, rfl, rfl⟩
theorem fl_X11_171 : FL RX11 171 6 5 false .int := ⟨RX6, TX6, 7, tyX6, rfl, by decide, by decide, rfl, inT6, TB1 131 rfl rfl, rfl, tyX6_ok, nmX6, rfl, rfl⟩
theorem fl_X11_215 : FL RX11 215 2 3 false .int := ⟨RX2, TX2, 5, tyX2, rfl, by decide, by decide, rfl, inT2, TB2 2 rfl rfl, rfl, tyX2_ok, nmX2, rfl, rfl⟩
theorem fl_X0_9 : FL RX0 9 0 0 true .int := ⟨RX0, TX0, 6, tyX0, rfl, by decide, by decide, rfl, inT0, TB1 97 rfl rfl, rfl, tyX0_ok, nmX0, rfl, rfl⟩
theorem fl_X0_15 : FL RX0 15 0 1 true .int := ⟨RX0, TX0, 6, tyX0, rfl, by decide, by decide, rfl, inT0, TB1 99 rfl rfl, rfl, tyX0_ok, nmX0, rfl, rfl⟩
theorem fl_X0_18 : FL RX0 18 0 2 true (.object "SheetDoctor$Formula") := ⟨RX0, TX0, 6, tyX0, rfl, by decide, by decide, rfl, inT0, TB1 102 rfl rfl, rfl, tyX0_ok, nmX0, rfl, rfl⟩
theorem fl_X0_22 : FL RX0 22 0 3 true .int := ⟨RX0, TX0, 6, tyX0, rfl, by decide, by decide, rfl, inT0, TB1 104 rfl rfl, rfl, tyX0_ok, nmX0, rfl, rfl⟩
theorem fl_X0_25 : FL RX0 25 0 4 true .int := ⟨RX0, TX0, 6, tyX0, rfl, by decide, by decide, rfl, inT0, TB1 106 rfl rfl, rfl, tyX0_ok, nmX0, rfl, rfl⟩
theorem fl_X0_28 : FL RX0 28 0 5 true .int := ⟨RX0, TX0, 6, tyX0, rfl, by decide, by decide, rfl, inT0, TB1 108 rfl rfl, rfl, tyX0_ok, nmX0, rfl, rfl⟩
theorem fl_X1_9 : FL RX1 9 1 0 true (.object "SheetDoctor$Values") := ⟨RX1, TX1, 5, tyX1, rfl, by decide, by decide, rfl, inT1, TB2 114 rfl rfl, rfl, tyX1_ok, nmX1, rfl, rfl⟩
theorem fl_X1_15 : FL RX1 15 1 1 true (.array .int) := ⟨RX1, TX1, 5, tyX1, rfl, by decide, by decide, rfl, inT1, TB2 115 rfl rfl, rfl, tyX1_ok, nmX1, rfl, rfl⟩
theorem fl_X1_19 : FL RX1 19 1 2 true (.array .int) := ⟨RX1, TX1, 5, tyX1, rfl, by decide, by decide, rfl, inT1, TB2 116 rfl rfl, rfl, tyX1_ok, nmX1, rfl, rfl⟩
theorem fl_X1_22 : FL RX1 22 1 3 true (.array .int) := ⟨RX1, TX1, 5, tyX1, rfl, by decide, by decide, rfl, inT1, TB2 117 rfl rfl, rfl, tyX1_ok, nmX1, rfl, rfl⟩
theorem fl_X1_25 : FL RX1 25 1 4 false .int := ⟨RX1, TX1, 5, tyX1, rfl, by decide, by decide, rfl, inT1, TB2 118 rfl rfl, rfl, tyX1_ok, nmX1, rfl, rfl⟩
theorem fl_X2_9 : FL RX2 9 2 0 true (.object "SheetDoctor$Sheet") := ⟨RX2, TX2, 5, tyX2, rfl, by decide, by decide, rfl, inT2, TB1 238 rfl rfl, rfl, tyX2_ok, nmX2, rfl, rfl⟩
theorem fl_X2_15 : FL RX2 15 2 1 true (.array .int) := ⟨RX2, TX2, 5, tyX2, rfl, by decide, by decide, rfl, inT2, TB1 239 rfl rfl, rfl, tyX2_ok, nmX2, rfl, rfl⟩
theorem fl_X2_19 : FL RX2 19 2 2 true (.array .int) := ⟨RX2, TX2, 5, tyX2, rfl, by decide, by decide, rfl, inT2, TB2 0 rfl rfl, rfl, tyX2_ok, nmX2, rfl, rfl⟩
theorem fl_X2_22 : FL RX2 22 2 4 false .int := ⟨RX2, TX2, 5, tyX2, rfl, by decide, by decide, rfl, inT2, TB2 3 rfl rfl, rfl, tyX2_ok, nmX2, rfl, rfl⟩
theorem fl_X2_26 : FL RX2 26 6 6 false .int := ⟨RX6, TX6, 7, tyX6, rfl, by decide, by decide, rfl, inT6, TB1 133 rfl rfl, rfl, tyX6_ok, nmX6, rfl, rfl⟩
theorem fl_X2_29 : FL RX2 29 2 3 false .int := ⟨RX2, TX2, 5, tyX2, rfl, by decide, by decide, rfl, inT2, TB2 1 rfl rfl, rfl, tyX2_ok, nmX2, rfl, rfl⟩
theorem fl_X3_9 : FL RX3 9 3 0 true (.object "SheetDoctor$Sheet") := ⟨RX3, TX3, 7, tyX3, rfl, by decide, by decide, rfl, inT3, TB2 86 rfl rfl, rfl, tyX3_ok, nmX3, rfl, rfl⟩
theorem fl_X3_15 : FL RX3 15 3 1 true (.object "SheetDoctor$Links") := ⟨RX3, TX3, 7, tyX3, rfl, by decide, by decide, rfl, inT3, TB2 87 rfl rfl, rfl, tyX3_ok, nmX3, rfl, rfl⟩
theorem fl_X3_19 : FL RX3 19 3 2 true (.object "SheetDoctor$Families") := ⟨RX3, TX3, 7, tyX3, rfl, by decide, by decide, rfl, inT3, TB2 88 rfl rfl, rfl, tyX3_ok, nmX3, rfl, rfl⟩
theorem fl_X3_23 : FL RX3 23 3 3 true (.object "SheetDoctor$Units") := ⟨RX3, TX3, 7, tyX3, rfl, by decide, by decide, rfl, inT3, TB2 89 rfl rfl, rfl, tyX3_ok, nmX3, rfl, rfl⟩
theorem fl_X3_27 : FL RX3 27 3 4 true (.object "SheetDoctor$Totals") := ⟨RX3, TX3, 7, tyX3, rfl, by decide, by decide, rfl, inT3, TB2 90 rfl rfl, rfl, tyX3_ok, nmX3, rfl, rfl⟩
theorem fl_X3_31 : FL RX3 31 3 5 true (.array .int) := ⟨RX3, TX3, 7, tyX3, rfl, by decide, by decide, rfl, inT3, TB2 91 rfl rfl, rfl, tyX3_ok, nmX3, rfl, rfl⟩
theorem fl_X3_35 : FL RX3 35 3 6 false .int := ⟨RX3, TX3, 7, tyX3, rfl, by decide, by decide, rfl, inT3, TB2 92 rfl rfl, rfl, tyX3_ok, nmX3, rfl, rfl⟩
theorem fl_X4_17 : FL RX4 17 4 0 true (.array .int) := ⟨RX4, TX4, 3, tyX4, rfl, by decide, by decide, rfl, inT4, TB3 146 rfl rfl, rfl, tyX4_ok, nmX4, rfl, rfl⟩
theorem fl_X4_21 : FL RX4 21 4 1 true (.array .int) := ⟨RX4, TX4, 3, tyX4, rfl, by decide, by decide, rfl, inT4, TB3 147 rfl rfl, rfl, tyX4_ok, nmX4, rfl, rfl⟩
theorem fl_X4_24 : FL RX4 24 4 2 true (.array .int) := ⟨RX4, TX4, 3, tyX4, rfl, by decide, by decide, rfl, inT4, TB3 148 rfl rfl, rfl, tyX4_ok, nmX4, rfl, rfl⟩
theorem fl_X5_9 : FL RX5 9 5 0 true (.object "SheetDoctor$Sheet") := ⟨RX5, TX5, 12, tyX5, rfl, by decide, by decide, rfl, inT5, TB1 160 rfl rfl, rfl, tyX5_ok, nmX5, rfl, rfl⟩
theorem fl_X5_15 : FL RX5 15 5 1 true (.array .int) := ⟨RX5, TX5, 12, tyX5, rfl, by decide, by decide, rfl, inT5, TB1 161 rfl rfl, rfl, tyX5_ok, nmX5, rfl, rfl⟩
theorem fl_X5_19 : FL RX5 19 5 3 true (.array .long) := ⟨RX5, TX5, 12, tyX5, rfl, by decide, by decide, rfl, inT5, TB1 163 rfl rfl, rfl, tyX5_ok, nmX5, rfl, rfl⟩
theorem fl_X5_23 : FL RX5 23 5 4 true (.array .long) := ⟨RX5, TX5, 12, tyX5, rfl, by decide, by decide, rfl, inT5, TB1 164 rfl rfl, rfl, tyX5_ok, nmX5, rfl, rfl⟩
theorem fl_X5_26 : FL RX5 26 5 5 true (.array .long) := ⟨RX5, TX5, 12, tyX5, rfl, by decide, by decide, rfl, inT5, TB1 165 rfl rfl, rfl, tyX5_ok, nmX5, rfl, rfl⟩
theorem fl_X5_29 : FL RX5 29 5 6 true (.array .boolean) := ⟨RX5, TX5, 12, tyX5, rfl, by decide, by decide, rfl, inT5, TB1 166 rfl rfl, rfl, tyX5_ok, nmX5, rfl, rfl⟩
theorem fl_X5_33 : FL RX5 33 5 7 true (.array .int) := ⟨RX5, TX5, 12, tyX5, rfl, by decide, by decide, rfl, inT5, TB1 167 rfl rfl, rfl, tyX5_ok, nmX5, rfl, rfl⟩
theorem fl_X5_36 : FL RX5 36 5 8 true (.array .int) := ⟨RX5, TX5, 12, tyX5, rfl, by decide, by decide, rfl, inT5, TB1 168 rfl rfl, rfl, tyX5_ok, nmX5, rfl, rfl⟩
theorem fl_X5_39 : FL RX5 39 5 10 true (.array .int) := ⟨RX5, TX5, 12, tyX5, rfl, by decide, by decide, rfl, inT5, TB1 170 rfl rfl, rfl, tyX5_ok, nmX5, rfl, rfl⟩
theorem fl_X5_42 : FL RX5 42 5 11 false .int := ⟨RX5, TX5, 12, tyX5, rfl, by decide, by decide, rfl, inT5, TB1 171 rfl rfl, rfl, tyX5_ok, nmX5, rfl, rfl⟩
theorem fl_X5_46 : FL RX5 46 6 6 false .int := ⟨RX6, TX6, 7, tyX6, rfl, by decide, by decide, rfl, inT6, TB1 135 rfl rfl, rfl, tyX6_ok, nmX6, rfl, rfl⟩
theorem fl_X5_55 : FL RX5 55 5 9 false .int := ⟨RX5, TX5, 12, tyX5, rfl, by decide, by decide, rfl, inT5, TB1 169 rfl rfl, rfl, tyX5_ok, nmX5, rfl, rfl⟩
theorem fl_X5_58 : FL RX5 58 5 2 false .int := ⟨RX5, TX5, 12, tyX5, rfl, by decide, by decide, rfl, inT5, TB1 162 rfl rfl, rfl, tyX5_ok, nmX5, rfl, rfl⟩
theorem fl_X6_14 : FL RX6 14 6 0 true (.object "SheetDoctor$Cell") := ⟨RX6, TX6, 7, tyX6, rfl, by decide, by decide, rfl, inT6, TB1 124 rfl rfl, rfl, tyX6_ok, nmX6, rfl, rfl⟩
theorem fl_X6_20 : FL RX6 20 6 1 true (.array (.object "SheetDoctor$Cell")) := ⟨RX6, TX6, 7, tyX6, rfl, by decide, by decide, rfl, inT6, TB1 126 rfl rfl, rfl, tyX6_ok, nmX6, rfl, rfl⟩
theorem fl_X6_24 : FL RX6 24 6 2 true (.array .boolean) := ⟨RX6, TX6, 7, tyX6, rfl, by decide, by decide, rfl, inT6, TB1 127 rfl rfl, rfl, tyX6_ok, nmX6, rfl, rfl⟩
theorem fl_X6_28 : FL RX6 28 6 3 true (.array .int) := ⟨RX6, TX6, 7, tyX6, rfl, by decide, by decide, rfl, inT6, TB1 128 rfl rfl, rfl, tyX6_ok, nmX6, rfl, rfl⟩
theorem fl_X6_32 : FL RX6 32 6 4 true (.array (.object "SheetDoctor$Cell")) := ⟨RX6, TX6, 7, tyX6, rfl, by decide, by decide, rfl, inT6, TB1 129 rfl rfl, rfl, tyX6_ok, nmX6, rfl, rfl⟩
theorem fl_X6_35 : FL RX6 35 6 5 false .int := ⟨RX6, TX6, 7, tyX6, rfl, by decide, by decide, rfl, inT6, TB1 130 rfl rfl, rfl, tyX6_ok, nmX6, rfl, rfl⟩
theorem fl_X6_39 : FL RX6 39 6 6 false .int := ⟨RX6, TX6, 7, tyX6, rfl, by decide, by decide, rfl, inT6, TB1 132 rfl rfl, rfl, tyX6_ok, nmX6, rfl, rfl⟩
theorem fl_X6_46 : FL RX6 46 0 0 true .int := ⟨RX0, TX0, 6, tyX0, rfl, by decide, by decide, rfl, inT0, TB1 98 rfl rfl, rfl, tyX0_ok, nmX0, rfl, rfl⟩
theorem fl_X6_49 : FL RX6 49 0 2 true (.object "SheetDoctor$Formula") := ⟨RX0, TX0, 6, tyX0, rfl, by decide, by decide, rfl, inT0, TB1 103 rfl rfl, rfl, tyX0_ok, nmX0, rfl, rfl⟩
theorem fl_X7_9 : FL RX7 9 7 0 true (.array .char) := ⟨RX7, TX7, 13, tyX7, rfl, by decide, by decide, rfl, inT7, TB1 41 rfl rfl, rfl, tyX7_ok, nmX7, rfl, rfl⟩
theorem fl_X7_15 : FL RX7 15 7 1 false .int := ⟨RX7, TX7, 13, tyX7, rfl, by decide, by decide, rfl, inT7, TB1 42 rfl rfl, rfl, tyX7_ok, nmX7, rfl, rfl⟩
theorem fl_X7_19 : FL RX7 19 7 3 true (.array .int) := ⟨RX7, TX7, 13, tyX7, rfl, by decide, by decide, rfl, inT7, TB1 45 rfl rfl, rfl, tyX7_ok, nmX7, rfl, rfl⟩
theorem fl_X7_23 : FL RX7 23 7 4 true (.array .int) := ⟨RX7, TX7, 13, tyX7, rfl, by decide, by decide, rfl, inT7, TB1 46 rfl rfl, rfl, tyX7_ok, nmX7, rfl, rfl⟩
theorem fl_X7_26 : FL RX7 26 7 5 true (.array .int) := ⟨RX7, TX7, 13, tyX7, rfl, by decide, by decide, rfl, inT7, TB1 47 rfl rfl, rfl, tyX7_ok, nmX7, rfl, rfl⟩
theorem fl_X7_29 : FL RX7 29 7 9 true (.array .int) := ⟨RX7, TX7, 13, tyX7, rfl, by decide, by decide, rfl, inT7, TB1 52 rfl rfl, rfl, tyX7_ok, nmX7, rfl, rfl⟩
theorem fl_X7_32 : FL RX7 32 7 10 true (.array .int) := ⟨RX7, TX7, 13, tyX7, rfl, by decide, by decide, rfl, inT7, TB1 53 rfl rfl, rfl, tyX7_ok, nmX7, rfl, rfl⟩
theorem fl_X7_35 : FL RX7 35 7 11 true (.array .int) := ⟨RX7, TX7, 13, tyX7, rfl, by decide, by decide, rfl, inT7, TB1 54 rfl rfl, rfl, tyX7_ok, nmX7, rfl, rfl⟩
theorem fl_X7_38 : FL RX7 38 7 2 false .int := ⟨RX7, TX7, 13, tyX7, rfl, by decide, by decide, rfl, inT7, TB1 44 rfl rfl, rfl, tyX7_ok, nmX7, rfl, rfl⟩
theorem fl_X7_41 : FL RX7 41 7 12 false .int := ⟨RX7, TX7, 13, tyX7, rfl, by decide, by decide, rfl, inT7, TB1 55 rfl rfl, rfl, tyX7_ok, nmX7, rfl, rfl⟩
theorem fl_X7_44 : FL RX7 44 7 8 false .int := ⟨RX7, TX7, 13, tyX7, rfl, by decide, by decide, rfl, inT7, TB1 50 rfl rfl, rfl, tyX7_ok, nmX7, rfl, rfl⟩
theorem fl_X7_50 : FL RX7 50 7 7 false .int := ⟨RX7, TX7, 13, tyX7, rfl, by decide, by decide, rfl, inT7, TB1 49 rfl rfl, rfl, tyX7_ok, nmX7, rfl, rfl⟩
theorem fl_X7_69 : FL RX7 69 7 6 false .int := ⟨RX7, TX7, 13, tyX7, rfl, by decide, by decide, rfl, inT7, TB1 48 rfl rfl, rfl, tyX7_ok, nmX7, rfl, rfl⟩
theorem fl_X8_9 : FL RX8 9 8 0 true (.object "SheetDoctor$Sheet") := ⟨RX8, TX8, 8, tyX8, rfl, by decide, by decide, rfl, inT8, TB2 55 rfl rfl, rfl, tyX8_ok, nmX8, rfl, rfl⟩
theorem fl_X8_15 : FL RX8 15 8 1 true (.object "SheetDoctor$Links") := ⟨RX8, TX8, 8, tyX8, rfl, by decide, by decide, rfl, inT8, TB2 56 rfl rfl, rfl, tyX8_ok, nmX8, rfl, rfl⟩
theorem fl_X8_19 : FL RX8 19 8 2 true (.array .boolean) := ⟨RX8, TX8, 8, tyX8, rfl, by decide, by decide, rfl, inT8, TB2 57 rfl rfl, rfl, tyX8_ok, nmX8, rfl, rfl⟩
theorem fl_X8_23 : FL RX8 23 8 3 true (.array .int) := ⟨RX8, TX8, 8, tyX8, rfl, by decide, by decide, rfl, inT8, TB2 58 rfl rfl, rfl, tyX8_ok, nmX8, rfl, rfl⟩
theorem fl_X8_27 : FL RX8 27 8 4 true (.array .int) := ⟨RX8, TX8, 8, tyX8, rfl, by decide, by decide, rfl, inT8, TB2 59 rfl rfl, rfl, tyX8_ok, nmX8, rfl, rfl⟩
theorem fl_X8_30 : FL RX8 30 8 5 true (.array .long) := ⟨RX8, TX8, 8, tyX8, rfl, by decide, by decide, rfl, inT8, TB2 60 rfl rfl, rfl, tyX8_ok, nmX8, rfl, rfl⟩
theorem fl_X8_34 : FL RX8 34 8 6 true (.array .long) := ⟨RX8, TX8, 8, tyX8, rfl, by decide, by decide, rfl, inT8, TB2 61 rfl rfl, rfl, tyX8_ok, nmX8, rfl, rfl⟩
theorem fl_X8_37 : FL RX8 37 8 7 false .int := ⟨RX8, TX8, 8, tyX8, rfl, by decide, by decide, rfl, inT8, TB2 62 rfl rfl, rfl, tyX8_ok, nmX8, rfl, rfl⟩
theorem fl_X8_41 : FL RX8 41 6 6 false .int := ⟨RX6, TX6, 7, tyX6, rfl, by decide, by decide, rfl, inT6, TB1 136 rfl rfl, rfl, tyX6_ok, nmX6, rfl, rfl⟩
theorem fl_X9_9 : FL RX9 9 9 0 true (.object "SheetDoctor$Sheet") := ⟨RX9, TX9, 9, tyX9, rfl, by decide, by decide, rfl, inT9, TB2 21 rfl rfl, rfl, tyX9_ok, nmX9, rfl, rfl⟩
theorem fl_X9_15 : FL RX9 15 9 1 true (.object "SheetDoctor$Links") := ⟨RX9, TX9, 9, tyX9, rfl, by decide, by decide, rfl, inT9, TB2 22 rfl rfl, rfl, tyX9_ok, nmX9, rfl, rfl⟩
theorem fl_X9_19 : FL RX9 19 9 2 true (.array .int) := ⟨RX9, TX9, 9, tyX9, rfl, by decide, by decide, rfl, inT9, TB2 23 rfl rfl, rfl, tyX9_ok, nmX9, rfl, rfl⟩
theorem fl_X9_23 : FL RX9 23 9 3 true (.array .boolean) := ⟨RX9, TX9, 9, tyX9, rfl, by decide, by decide, rfl, inT9, TB2 24 rfl rfl, rfl, tyX9_ok, nmX9, rfl, rfl⟩
theorem fl_X9_27 : FL RX9 27 9 4 true (.array .int) := ⟨RX9, TX9, 9, tyX9, rfl, by decide, by decide, rfl, inT9, TB2 25 rfl rfl, rfl, tyX9_ok, nmX9, rfl, rfl⟩
theorem fl_X9_30 : FL RX9 30 9 5 true (.array .int) := ⟨RX9, TX9, 9, tyX9, rfl, by decide, by decide, rfl, inT9, TB2 26 rfl rfl, rfl, tyX9_ok, nmX9, rfl, rfl⟩
theorem fl_X9_33 : FL RX9 33 9 8 false .int := ⟨RX9, TX9, 9, tyX9, rfl, by decide, by decide, rfl, inT9, TB2 29 rfl rfl, rfl, tyX9_ok, nmX9, rfl, rfl⟩
theorem fl_X9_37 : FL RX9 37 6 6 false .int := ⟨RX6, TX6, 7, tyX6, rfl, by decide, by decide, rfl, inT6, TB1 134 rfl rfl, rfl, tyX6_ok, nmX6, rfl, rfl⟩
theorem fl_X9_49 : FL RX9 49 0 3 true .int := ⟨RX0, TX0, 6, tyX0, rfl, by decide, by decide, rfl, inT0, TB1 105 rfl rfl, rfl, tyX0_ok, nmX0, rfl, rfl⟩
theorem fl_X9_54 : FL RX9 54 0 4 true .int := ⟨RX0, TX0, 6, tyX0, rfl, by decide, by decide, rfl, inT0, TB1 107 rfl rfl, rfl, tyX0_ok, nmX0, rfl, rfl⟩
theorem fl_X9_57 : FL RX9 57 0 5 true .int := ⟨RX0, TX0, 6, tyX0, rfl, by decide, by decide, rfl, inT0, TB1 109 rfl rfl, rfl, tyX0_ok, nmX0, rfl, rfl⟩
theorem fl_X9_83 : FL RX9 83 9 7 false .boolean := ⟨RX9, TX9, 9, tyX9, rfl, by decide, by decide, rfl, inT9, TB2 28 rfl rfl, rfl, tyX9_ok, nmX9, rfl, rfl⟩
theorem fl_X9_87 : FL RX9 87 9 6 false .int := ⟨RX9, TX9, 9, tyX9, rfl, by decide, by decide, rfl, inT9, TB2 27 rfl rfl, rfl, tyX9_ok, nmX9, rfl, rfl⟩
theorem fl_X10_9 : FL RX10 9 10 0 true (.object "SheetDoctor$Sheet") := ⟨RX10, TX10, 9, tyX10, rfl, by decide, by decide, rfl, inT10, TB1 204 rfl rfl, rfl, tyX10_ok, nmX10, rfl, rfl⟩
theorem fl_X10_15 : FL RX10 15 10 1 true (.object "SheetDoctor$Links") := ⟨RX10, TX10, 9, tyX10, rfl, by decide, by decide, rfl, inT10, TB1 205 rfl rfl, rfl, tyX10_ok, nmX10, rfl, rfl⟩
theorem fl_X10_19 : FL RX10 19 10 2 true (.array .int) := ⟨RX10, TX10, 9, tyX10, rfl, by decide, by decide, rfl, inT10, TB1 206 rfl rfl, rfl, tyX10_ok, nmX10, rfl, rfl⟩
theorem fl_X10_23 : FL RX10 23 10 3 true (.array .int) := ⟨RX10, TX10, 9, tyX10, rfl, by decide, by decide, rfl, inT10, TB1 207 rfl rfl, rfl, tyX10_ok, nmX10, rfl, rfl⟩
theorem fl_X10_26 : FL RX10 26 10 4 true (.array .int) := ⟨RX10, TX10, 9, tyX10, rfl, by decide, by decide, rfl, inT10, TB1 208 rfl rfl, rfl, tyX10_ok, nmX10, rfl, rfl⟩
theorem fl_X10_29 : FL RX10 29 10 5 true (.array .int) := ⟨RX10, TX10, 9, tyX10, rfl, by decide, by decide, rfl, inT10, TB1 209 rfl rfl, rfl, tyX10_ok, nmX10, rfl, rfl⟩
theorem fl_X10_32 : FL RX10 32 10 8 false .int := ⟨RX10, TX10, 9, tyX10, rfl, by decide, by decide, rfl, inT10, TB1 212 rfl rfl, rfl, tyX10_ok, nmX10, rfl, rfl⟩
theorem fl_X10_36 : FL RX10 36 6 6 false .int := ⟨RX6, TX6, 7, tyX6, rfl, by decide, by decide, rfl, inT6, TB1 137 rfl rfl, rfl, tyX6_ok, nmX6, rfl, rfl⟩
theorem fl_X10_48 : FL RX10 48 0 1 true .int := ⟨RX0, TX0, 6, tyX0, rfl, by decide, by decide, rfl, inT0, TB1 100 rfl rfl, rfl, tyX0_ok, nmX0, rfl, rfl⟩
theorem fl_X10_76 : FL RX10 76 10 7 false .int := ⟨RX10, TX10, 9, tyX10, rfl, by decide, by decide, rfl, inT10, TB1 211 rfl rfl, rfl, tyX10_ok, nmX10, rfl, rfl⟩
theorem fl_X10_79 : FL RX10 79 10 6 false .int := ⟨RX10, TX10, 9, tyX10, rfl, by decide, by decide, rfl, inT10, TB1 210 rfl rfl, rfl, tyX10_ok, nmX10, rfl, rfl⟩
theorem fl_X12_1 : FL RX12 1 12 0 false .int := ⟨RX12, TX12, 43, tyX12, rfl, by decide, by decide, rfl, inT12, TB6 31 rfl rfl, rfl, tyX12_ok, nmX12, rfl, rfl⟩
theorem fl_X12_11 : FL RX12 11 12 2 false .int := ⟨RX12, TX12, 43, tyX12, rfl, by decide, by decide, rfl, inT12, TB6 33 rfl rfl, rfl, tyX12_ok, nmX12, rfl, rfl⟩
theorem fl_X12_14 : FL RX12 14 12 1 true (.array .int) := ⟨RX12, TX12, 43, tyX12, rfl, by decide, by decide, rfl, inT12, TB6 32 rfl rfl, rfl, tyX12_ok, nmX12, rfl, rfl⟩
theorem fl_X12_18 : FL RX12 18 12 3 false .int := ⟨RX12, TX12, 43, tyX12, rfl, by decide, by decide, rfl, inT12, TB6 34 rfl rfl, rfl, tyX12_ok, nmX12, rfl, rfl⟩
theorem fl_X12_21 : FL RX12 21 12 5 true (.array .int) := ⟨RX12, TX12, 43, tyX12, rfl, by decide, by decide, rfl, inT12, TB6 36 rfl rfl, rfl, tyX12_ok, nmX12, rfl, rfl⟩
theorem fl_X12_32 : FL RX12 32 12 4 true (.array .int) := ⟨RX12, TX12, 43, tyX12, rfl, by decide, by decide, rfl, inT12, TB6 35 rfl rfl, rfl, tyX12_ok, nmX12, rfl, rfl⟩
theorem fl_X12_45 : FL RX12 45 12 6 true (.array .long) := ⟨RX12, TX12, 43, tyX12, rfl, by decide, by decide, rfl, inT12, TB6 37 rfl rfl, rfl, tyX12_ok, nmX12, rfl, rfl⟩
theorem fl_X12_49 : FL RX12 49 12 7 false .int := ⟨RX12, TX12, 43, tyX12, rfl, by decide, by decide, rfl, inT12, TB6 38 rfl rfl, rfl, tyX12_ok, nmX12, rfl, rfl⟩
theorem fl_X12_52 : FL RX12 52 12 8 false .int := ⟨RX12, TX12, 43, tyX12, rfl, by decide, by decide, rfl, inT12, TB6 39 rfl rfl, rfl, tyX12_ok, nmX12, rfl, rfl⟩
theorem fl_X12_65 : FL RX12 65 12 9 true (.array .int) := ⟨RX12, TX12, 43, tyX12, rfl, by decide, by decide, rfl, inT12, TB6 40 rfl rfl, rfl, tyX12_ok, nmX12, rfl, rfl⟩
theorem fl_X12_68 : FL RX12 68 12 10 true (.array .int) := ⟨RX12, TX12, 43, tyX12, rfl, by decide, by decide, rfl, inT12, TB6 41 rfl rfl, rfl, tyX12_ok, nmX12, rfl, rfl⟩
theorem fl_X12_71 : FL RX12 71 12 11 true (.array .int) := ⟨RX12, TX12, 43, tyX12, rfl, by decide, by decide, rfl, inT12, TB6 42 rfl rfl, rfl, tyX12_ok, nmX12, rfl, rfl⟩
theorem fl_X12_74 : FL RX12 74 12 12 true (.array .int) := ⟨RX12, TX12, 43, tyX12, rfl, by decide, by decide, rfl, inT12, TB6 43 rfl rfl, rfl, tyX12_ok, nmX12, rfl, rfl⟩
theorem fl_X12_77 : FL RX12 77 12 13 true (.array .int) := ⟨RX12, TX12, 43, tyX12, rfl, by decide, by decide, rfl, inT12, TB6 44 rfl rfl, rfl, tyX12_ok, nmX12, rfl, rfl⟩
theorem fl_X12_80 : FL RX12 80 12 15 true (.array .int) := ⟨RX12, TX12, 43, tyX12, rfl, by decide, by decide, rfl, inT12, TB6 46 rfl rfl, rfl, tyX12_ok, nmX12, rfl, rfl⟩
theorem fl_X12_83 : FL RX12 83 12 16 true (.array .int) := ⟨RX12, TX12, 43, tyX12, rfl, by decide, by decide, rfl, inT12, TB6 47 rfl rfl, rfl, tyX12_ok, nmX12, rfl, rfl⟩
theorem fl_X12_86 : FL RX12 86 12 17 true (.array .int) := ⟨RX12, TX12, 43, tyX12, rfl, by decide, by decide, rfl, inT12, TB6 48 rfl rfl, rfl, tyX12_ok, nmX12, rfl, rfl⟩
theorem fl_X12_89 : FL RX12 89 12 18 true (.array .boolean) := ⟨RX12, TX12, 43, tyX12, rfl, by decide, by decide, rfl, inT12, TB6 49 rfl rfl, rfl, tyX12_ok, nmX12, rfl, rfl⟩
theorem fl_X12_93 : FL RX12 93 12 20 true (.array .int) := ⟨RX12, TX12, 43, tyX12, rfl, by decide, by decide, rfl, inT12, TB6 51 rfl rfl, rfl, tyX12_ok, nmX12, rfl, rfl⟩
theorem fl_X12_96 : FL RX12 96 12 21 true (.array .long) := ⟨RX12, TX12, 43, tyX12, rfl, by decide, by decide, rfl, inT12, TB6 52 rfl rfl, rfl, tyX12_ok, nmX12, rfl, rfl⟩
theorem fl_X12_99 : FL RX12 99 12 22 true (.array .long) := ⟨RX12, TX12, 43, tyX12, rfl, by decide, by decide, rfl, inT12, TB6 53 rfl rfl, rfl, tyX12_ok, nmX12, rfl, rfl⟩
theorem fl_X12_102 : FL RX12 102 12 23 true (.array .int) := ⟨RX12, TX12, 43, tyX12, rfl, by decide, by decide, rfl, inT12, TB6 54 rfl rfl, rfl, tyX12_ok, nmX12, rfl, rfl⟩
theorem fl_X12_105 : FL RX12 105 12 24 true (.array .int) := ⟨RX12, TX12, 43, tyX12, rfl, by decide, by decide, rfl, inT12, TB6 55 rfl rfl, rfl, tyX12_ok, nmX12, rfl, rfl⟩
theorem fl_X12_108 : FL RX12 108 12 25 true (.array .int) := ⟨RX12, TX12, 43, tyX12, rfl, by decide, by decide, rfl, inT12, TB6 56 rfl rfl, rfl, tyX12_ok, nmX12, rfl, rfl⟩
theorem fl_X12_111 : FL RX12 111 12 26 true (.array .boolean) := ⟨RX12, TX12, 43, tyX12, rfl, by decide, by decide, rfl, inT12, TB6 57 rfl rfl, rfl, tyX12_ok, nmX12, rfl, rfl⟩
theorem fl_X12_114 : FL RX12 114 12 27 true (.array .boolean) := ⟨RX12, TX12, 43, tyX12, rfl, by decide, by decide, rfl, inT12, TB6 58 rfl rfl, rfl, tyX12_ok, nmX12, rfl, rfl⟩
theorem fl_X12_117 : FL RX12 117 12 28 true (.array .int) := ⟨RX12, TX12, 43, tyX12, rfl, by decide, by decide, rfl, inT12, TB6 59 rfl rfl, rfl, tyX12_ok, nmX12, rfl, rfl⟩
theorem fl_X12_121 : FL RX12 121 12 29 true (.array .int) := ⟨RX12, TX12, 43, tyX12, rfl, by decide, by decide, rfl, inT12, TB6 60 rfl rfl, rfl, tyX12_ok, nmX12, rfl, rfl⟩
theorem fl_X12_124 : FL RX12 124 12 30 true (.array .boolean) := ⟨RX12, TX12, 43, tyX12, rfl, by decide, by decide, rfl, inT12, TB6 61 rfl rfl, rfl, tyX12_ok, nmX12, rfl, rfl⟩
theorem fl_X12_127 : FL RX12 127 12 36 true (.array .int) := ⟨RX12, TX12, 43, tyX12, rfl, by decide, by decide, rfl, inT12, TB6 67 rfl rfl, rfl, tyX12_ok, nmX12, rfl, rfl⟩
theorem fl_X12_130 : FL RX12 130 12 38 true (.array .int) := ⟨RX12, TX12, 43, tyX12, rfl, by decide, by decide, rfl, inT12, TB6 69 rfl rfl, rfl, tyX12_ok, nmX12, rfl, rfl⟩
theorem fl_X12_133 : FL RX12 133 12 39 true (.array .int) := ⟨RX12, TX12, 43, tyX12, rfl, by decide, by decide, rfl, inT12, TB6 70 rfl rfl, rfl, tyX12_ok, nmX12, rfl, rfl⟩
theorem fl_X12_136 : FL RX12 136 12 40 true (.array .int) := ⟨RX12, TX12, 43, tyX12, rfl, by decide, by decide, rfl, inT12, TB6 71 rfl rfl, rfl, tyX12_ok, nmX12, rfl, rfl⟩
theorem fl_X12_139 : FL RX12 139 12 42 true (.array .int) := ⟨RX12, TX12, 43, tyX12, rfl, by decide, by decide, rfl, inT12, TB6 73 rfl rfl, rfl, tyX12_ok, nmX12, rfl, rfl⟩
theorem fl_X12_174 : FL RX12 174 12 14 false .int := ⟨RX12, TX12, 43, tyX12, rfl, by decide, by decide, rfl, inT12, TB6 45 rfl rfl, rfl, tyX12_ok, nmX12, rfl, rfl⟩
theorem fl_X12_188 : FL RX12 188 12 19 false .int := ⟨RX12, TX12, 43, tyX12, rfl, by decide, by decide, rfl, inT12, TB6 50 rfl rfl, rfl, tyX12_ok, nmX12, rfl, rfl⟩
theorem fl_X12_241 : FL RX12 241 12 31 false .int := ⟨RX12, TX12, 43, tyX12, rfl, by decide, by decide, rfl, inT12, TB6 62 rfl rfl, rfl, tyX12_ok, nmX12, rfl, rfl⟩
theorem fl_X12_244 : FL RX12 244 12 32 false .int := ⟨RX12, TX12, 43, tyX12, rfl, by decide, by decide, rfl, inT12, TB6 63 rfl rfl, rfl, tyX12_ok, nmX12, rfl, rfl⟩
theorem fl_X12_247 : FL RX12 247 12 33 false .int := ⟨RX12, TX12, 43, tyX12, rfl, by decide, by decide, rfl, inT12, TB6 64 rfl rfl, rfl, tyX12_ok, nmX12, rfl, rfl⟩
theorem fl_X12_254 : FL RX12 254 12 34 false .boolean := ⟨RX12, TX12, 43, tyX12, rfl, by decide, by decide, rfl, inT12, TB6 65 rfl rfl, rfl, tyX12_ok, nmX12, rfl, rfl⟩
theorem fl_X12_258 : FL RX12 258 12 35 false .int := ⟨RX12, TX12, 43, tyX12, rfl, by decide, by decide, rfl, inT12, TB6 66 rfl rfl, rfl, tyX12_ok, nmX12, rfl, rfl⟩
theorem fl_X12_314 : FL RX12 314 12 37 false .int := ⟨RX12, TX12, 43, tyX12, rfl, by decide, by decide, rfl, inT12, TB6 68 rfl rfl, rfl, tyX12_ok, nmX12, rfl, rfl⟩
theorem fl_X12_339 : FL RX12 339 12 41 false .int := ⟨RX12, TX12, 43, tyX12, rfl, by decide, by decide, rfl, inT12, TB6 72 rfl rfl, rfl, tyX12_ok, nmX12, rfl, rfl⟩
theorem oi_i : Cond.instanceMethod Lib.objectInit ∈ TBg := TB1 33 rfl rfl
theorem oi_c : Cond.code Lib.objectInit ⟨#[0xb1]⟩ 1 none ∈ TBg := TB1 34 rfl rfl
theorem ol_X11_3 : Cond.methodLink RX11 3 Lib.objectInit ∈ TBg := TB1 32 rfl rfl
theorem sc_X11_11 : SC RX11 11 yX7_init cX7_init 1 0 := ⟨TB1 37 rfl rfl, TB1 38 rfl rfl, TB1 2 rfl rfl, TB1 39 rfl rfl, rfl, by decide +kernel, by decide +kernel, by decide +kernel⟩
theorem sc_X11_18 : SC RX11 18 yX6_init cX6_init 2 0 := ⟨TB1 87 rfl rfl, TB1 88 rfl rfl, TB1 3 rfl rfl, TB1 89 rfl rfl, rfl, by decide +kernel, by decide +kernel, by decide +kernel⟩
theorem sc_X11_25 : SC RX11 25 yX5_init cX5_init 2 1 := ⟨TB1 156 rfl rfl, TB1 157 rfl rfl, TB1 5 rfl rfl, TB1 158 rfl rfl, rfl, by decide +kernel, by decide +kernel, by decide +kernel⟩
theorem sc_X11_34 : SC RX11 34 yX10_init cX10_init 3 2 := ⟨TB1 200 rfl rfl, TB1 201 rfl rfl, TB1 6 rfl rfl, TB1 202 rfl rfl, rfl, by decide +kernel, by decide +kernel, by decide +kernel⟩
theorem sc_X11_43 : SC RX11 43 yX2_init cX2_init 2 1 := ⟨TB1 234 rfl rfl, TB1 235 rfl rfl, TB1 7 rfl rfl, TB1 236 rfl rfl, rfl, by decide +kernel, by decide +kernel, by decide +kernel⟩
theorem sc_X11_50 : SC RX11 50 yX9_init cX9_init 3 2 := ⟨TB2 17 rfl rfl, TB2 18 rfl rfl, TB1 8 rfl rfl, TB2 19 rfl rfl, rfl, by decide +kernel, by decide +kernel, by decide +kernel⟩
theorem sc_X11_57 : SC RX11 57 yX8_init cX8_init 3 2 := ⟨TB2 51 rfl rfl, TB2 52 rfl rfl, TB1 9 rfl rfl, TB2 53 rfl rfl, rfl, by decide +kernel, by decide +kernel, by decide +kernel⟩
theorem sc_X11_64 : SC RX11 64 yX3_init cX3_init 6 5 := ⟨TB2 82 rfl rfl, TB2 83 rfl rfl, TB1 10 rfl rfl, TB2 84 rfl rfl, rfl, by decide +kernel, by decide +kernel, by decide +kernel⟩
theorem sc_X11_73 : SC RX11 73 yX1_init cX1_init 2 1 := ⟨TB2 110 rfl rfl, TB2 111 rfl rfl, TB1 11 rfl rfl, TB2 112 rfl rfl, rfl, by decide +kernel, by decide +kernel, by decide +kernel⟩
theorem sv_X11_80 : SV RX11 80 7 yX7_append cX7_append 5 none 1 := ⟨TB2 162 rfl rfl, TB2 163 rfl rfl, TB2 164 rfl rfl, TB1 2 rfl rfl, TB2 165 rfl rfl, ⟨_, rfl, rfl⟩, by decide, by decide +kernel, by decide +kernel, by decide +kernel⟩
theorem ss_X11_88 : SS RX11 88 yX11_onSheet cX11_onSheet 1 (some .boolean) 1 := ⟨TB2 170 rfl rfl, TB2 171 rfl rfl, TB1 1 rfl rfl, TB2 172 rfl rfl, by decide +kernel, by decide +kernel, by decide +kernel⟩
theorem sv_X11_92 : SV RX11 92 7 yX7_read cX7_read 2 (some (.object "SheetDoctor$Formula")) 1 := ⟨TB2 173 rfl rfl, TB2 174 rfl rfl, TB2 175 rfl rfl, TB1 2 rfl rfl, TB2 176 rfl rfl, ⟨_, rfl, rfl⟩, by decide, by decide +kernel, by decide +kernel, by decide +kernel⟩
theorem sc_X11_101 : SC RX11 101 yX0_init cX0_init 4 3 := ⟨TB3 158 rfl rfl, TB1 94 rfl rfl, TB1 4 rfl rfl, TB1 95 rfl rfl, rfl, by decide +kernel, by decide +kernel, by decide +kernel⟩
theorem sv_X11_104 : SV RX11 104 6 yX6_put cX6_put 3 none 2 := ⟨TB3 159 rfl rfl, TB3 160 rfl rfl, TB3 161 rfl rfl, TB1 3 rfl rfl, TB3 162 rfl rfl, ⟨_, rfl, rfl⟩, by decide, by decide +kernel, by decide +kernel, by decide +kernel⟩
theorem sv_X11_112 : SV RX11 112 6 yX6_copyFor cX6_copyFor 4 (some (.object "SheetDoctor$Cell")) 2 := ⟨TB3 188 rfl rfl, TB3 189 rfl rfl, TB3 190 rfl rfl, TB1 3 rfl rfl, TB3 191 rfl rfl, ⟨_, rfl, rfl⟩, by decide, by decide +kernel, by decide +kernel, by decide +kernel⟩
theorem sv_X11_116 : SV RX11 116 6 yX6_kindAt cX6_kindAt 2 (some .int) 1 := ⟨TB4 0 rfl rfl, TB4 1 rfl rfl, TB4 2 rfl rfl, TB1 3 rfl rfl, TB4 3 rfl rfl, ⟨_, rfl, rfl⟩, by decide, by decide +kernel, by decide +kernel, by decide +kernel⟩
theorem ss_X11_120 : SS RX11 120 yX11_isExponent cX11_isExponent 1 (some .boolean) 1 := ⟨TB4 4 rfl rfl, TB4 5 rfl rfl, TB1 1 rfl rfl, TB4 6 rfl rfl, by decide +kernel, by decide +kernel, by decide +kernel⟩
theorem sv_X11_123 : SV RX11 123 6 yX6_at cX6_at 2 (some (.object "SheetDoctor$Cell")) 1 := ⟨TB4 7 rfl rfl, TB3 168 rfl rfl, TB3 169 rfl rfl, TB1 3 rfl rfl, TB3 170 rfl rfl, ⟨_, rfl, rfl⟩, by decide, by decide +kernel, by decide +kernel, by decide +kernel⟩
theorem sc_X11_130 : SC RX11 130 yX0_init_ cX0_init_ 5 4 := ⟨TB4 8 rfl rfl, TB4 9 rfl rfl, TB1 4 rfl rfl, TB4 10 rfl rfl, rfl, by decide +kernel, by decide +kernel, by decide +kernel⟩
theorem sv_X11_133 : SV RX11 133 6 yX6_replace cX6_replace 3 none 2 := ⟨TB4 11 rfl rfl, TB3 173 rfl rfl, TB3 174 rfl rfl, TB1 3 rfl rfl, TB3 175 rfl rfl, ⟨_, rfl, rfl⟩, by decide, by decide +kernel, by decide +kernel, by decide +kernel⟩
theorem sv_X11_136 : SV RX11 136 6 yX6_setKept cX6_setKept 3 (some .boolean) 2 := ⟨TB4 16 rfl rfl, TB4 17 rfl rfl, TB4 18 rfl rfl, TB1 3 rfl rfl, TB4 19 rfl rfl, ⟨_, rfl, rfl⟩, by decide, by decide +kernel, by decide +kernel, by decide +kernel⟩
theorem sv_X11_140 : SV RX11 140 2 yX2_settle cX2_settle 3 none 0 := ⟨TB4 24 rfl rfl, TB4 25 rfl rfl, TB4 26 rfl rfl, TB1 7 rfl rfl, TB4 27 rfl rfl, ⟨_, rfl, rfl⟩, by decide, by decide +kernel, by decide +kernel, by decide +kernel⟩
theorem sv_X11_143 : SV RX11 143 9 yX9_settle cX9_settle 4 none 0 := ⟨TB4 40 rfl rfl, TB4 41 rfl rfl, TB4 42 rfl rfl, TB1 8 rfl rfl, TB4 43 rfl rfl, ⟨_, rfl, rfl⟩, by decide, by decide +kernel, by decide +kernel, by decide +kernel⟩
theorem sv_X11_144 : SV RX11 144 8 yX8_settle cX8_settle 3 none 0 := ⟨TB4 148 rfl rfl, TB4 149 rfl rfl, TB4 150 rfl rfl, TB1 9 rfl rfl, TB4 151 rfl rfl, ⟨_, rfl, rfl⟩, by decide, by decide +kernel, by decide +kernel, by decide +kernel⟩
theorem sv_X11_145 : SV RX11 145 3 yX3_gather cX3_gather 2 (some .int) 0 := ⟨TB4 159 rfl rfl, TB4 160 rfl rfl, TB4 161 rfl rfl, TB1 10 rfl rfl, TB4 162 rfl rfl, ⟨_, rfl, rfl⟩, by decide, by decide +kernel, by decide +kernel, by decide +kernel⟩
theorem sv_X11_149 : SV RX11 149 3 yX3_tell cX3_tell 3 (some .int) 2 := ⟨TB5 23 rfl rfl, TB5 24 rfl rfl, TB5 25 rfl rfl, TB1 10 rfl rfl, TB5 26 rfl rfl, ⟨_, rfl, rfl⟩, by decide, by decide +kernel, by decide +kernel, by decide +kernel⟩
theorem sv_X11_153 : SV RX11 153 1 yX1_forget cX1_forget 1 none 0 := ⟨TB5 31 rfl rfl, TB5 32 rfl rfl, TB5 33 rfl rfl, TB1 11 rfl rfl, TB5 34 rfl rfl, ⟨_, rfl, rfl⟩, by decide, by decide +kernel, by decide +kernel, by decide +kernel⟩
theorem sv_X11_156 : SV RX11 156 2 yX2_neighbourToCopy cX2_neighbourToCopy 3 (some .int) 1 := ⟨TB5 35 rfl rfl, TB4 202 rfl rfl, TB4 203 rfl rfl, TB1 7 rfl rfl, TB4 204 rfl rfl, ⟨_, rfl, rfl⟩, by decide, by decide +kernel, by decide +kernel, by decide +kernel⟩
theorem sv_X11_159 : SV RX11 159 10 yX10_settle cX10_settle 4 none 0 := ⟨TB5 36 rfl rfl, TB5 37 rfl rfl, TB5 38 rfl rfl, TB1 6 rfl rfl, TB5 39 rfl rfl, ⟨_, rfl, rfl⟩, by decide, by decide +kernel, by decide +kernel, by decide +kernel⟩
theorem sv_X11_160 : SV RX11 160 1 yX1_remember cX1_remember 2 none 0 := ⟨TB5 87 rfl rfl, TB5 88 rfl rfl, TB5 89 rfl rfl, TB1 11 rfl rfl, TB5 90 rfl rfl, ⟨_, rfl, rfl⟩, by decide, by decide +kernel, by decide +kernel, by decide +kernel⟩
theorem sv_X11_163 : SV RX11 163 1 yX1_compare cX1_compare 4 (some .int) 0 := ⟨TB5 93 rfl rfl, TB5 94 rfl rfl, TB5 95 rfl rfl, TB1 11 rfl rfl, TB5 96 rfl rfl, ⟨_, rfl, rfl⟩, by decide, by decide +kernel, by decide +kernel, by decide +kernel⟩
theorem sv_X11_166 : SV RX11 166 11 yX11_stretchedFormula cX11_stretchedFormula 5 (some (.object "SheetDoctor$Formula")) 2 := ⟨TB5 101 rfl rfl, TB5 103 rfl rfl, TBp4 3 rfl, TB1 1 rfl rfl, TB5 104 rfl rfl, ⟨_, rfl, rfl⟩, by decide, by decide +kernel, by decide +kernel, by decide +kernel⟩
theorem sv_X11_170 : SV RX11 170 1 yX1_tell cX1_tell 3 (some .int) 2 := ⟨TB5 122 rfl rfl, TB5 123 rfl rfl, TB5 124 rfl rfl, TB1 11 rfl rfl, TB5 125 rfl rfl, ⟨_, rfl, rfl⟩, by decide, by decide +kernel, by decide +kernel, by decide +kernel⟩
theorem sv_X11_174 : SV RX11 174 6 yX6_takeBack cX6_takeBack 1 none 0 := ⟨TB5 130 rfl rfl, TB5 131 rfl rfl, TB5 132 rfl rfl, TB1 3 rfl rfl, TB5 133 rfl rfl, ⟨_, rfl, rfl⟩, by decide, by decide +kernel, by decide +kernel, by decide +kernel⟩
theorem sv_X11_184 : SV RX11 184 10 yX10_valueAt cX10_valueAt 2 (some .int) 1 := ⟨TB5 237 rfl rfl, TB5 72 rfl rfl, TB5 73 rfl rfl, TB1 6 rfl rfl, TB5 74 rfl rfl, ⟨_, rfl, rfl⟩, by decide, by decide +kernel, by decide +kernel, by decide +kernel⟩
theorem sv_X11_187 : SV RX11 187 10 yX10_errorAt cX10_errorAt 2 (some .int) 1 := ⟨TB5 238 rfl rfl, TB5 68 rfl rfl, TB5 69 rfl rfl, TB1 6 rfl rfl, TB5 70 rfl rfl, ⟨_, rfl, rfl⟩, by decide, by decide +kernel, by decide +kernel, by decide +kernel⟩
theorem sv_X11_190 : SV RX11 190 2 yX2_familyAt cX2_familyAt 2 (some .int) 1 := ⟨TB5 239 rfl rfl, TB6 0 rfl rfl, TB6 1 rfl rfl, TB1 7 rfl rfl, TB6 2 rfl rfl, ⟨_, rfl, rfl⟩, by decide, by decide +kernel, by decide +kernel, by decide +kernel⟩
theorem sv_X11_193 : SV RX11 193 9 yX9_exponentAt cX9_exponentAt 3 (some .int) 2 := ⟨TB6 3 rfl rfl, TB4 130 rfl rfl, TB4 131 rfl rfl, TB1 8 rfl rfl, TB4 132 rfl rfl, ⟨_, rfl, rfl⟩, by decide, by decide +kernel, by decide +kernel, by decide +kernel⟩
theorem sv_X11_196 : SV RX11 196 8 yX8_isTotal cX8_isTotal 2 (some .boolean) 1 := ⟨TB5 138 rfl rfl, TB4 170 rfl rfl, TB4 171 rfl rfl, TB1 9 rfl rfl, TB4 172 rfl rfl, ⟨_, rfl, rfl⟩, by decide, by decide +kernel, by decide +kernel, by decide +kernel⟩
theorem sv_X11_199 : SV RX11 199 5 yX5_settle cX5_settle 3 none 0 := ⟨TB6 4 rfl rfl, TB4 45 rfl rfl, TB4 46 rfl rfl, TB1 5 rfl rfl, TB4 47 rfl rfl, ⟨_, rfl, rfl⟩, by decide, by decide +kernel, by decide +kernel, by decide +kernel⟩
theorem sv_X11_200 : SV RX11 200 5 yX5_cellsReadBy cX5_cellsReadBy 4 (some .int) 1 := ⟨TB6 5 rfl rfl, TB6 6 rfl rfl, TB6 7 rfl rfl, TB1 5 rfl rfl, TB6 8 rfl rfl, ⟨_, rfl, rfl⟩, by decide, by decide +kernel, by decide +kernel, by decide +kernel⟩
theorem sv_X11_203 : SV RX11 203 5 yX5_readersOf cX5_readersOf 4 (some .int) 1 := ⟨TB6 9 rfl rfl, TB5 12 rfl rfl, TB5 13 rfl rfl, TB1 5 rfl rfl, TB5 14 rfl rfl, ⟨_, rfl, rfl⟩, by decide, by decide +kernel, by decide +kernel, by decide +kernel⟩
theorem sv_X11_206 : SV RX11 206 6 yX6_isKept cX6_isKept 2 (some .boolean) 1 := ⟨TB6 10 rfl rfl, TB5 8 rfl rfl, TB5 9 rfl rfl, TB1 3 rfl rfl, TB5 10 rfl rfl, ⟨_, rfl, rfl⟩, by decide, by decide +kernel, by decide +kernel, by decide +kernel⟩
theorem sv_X11_209 : SV RX11 209 8 yX8_waysInto cX8_waysInto 6 (some .int) 2 := ⟨TB5 139 rfl rfl, TB5 140 rfl rfl, TB5 141 rfl rfl, TB1 9 rfl rfl, TB5 142 rfl rfl, ⟨_, rfl, rfl⟩, by decide, by decide +kernel, by decide +kernel, by decide +kernel⟩
theorem sv_X11_212 : SV RX11 212 6 yX6_cellsOfKind cX6_cellsOfKind 4 (some .int) 1 := ⟨TB5 156 rfl rfl, TB5 157 rfl rfl, TB5 158 rfl rfl, TB1 3 rfl rfl, TB5 159 rfl rfl, ⟨_, rfl, rfl⟩, by decide, by decide +kernel, by decide +kernel, by decide +kernel⟩
theorem sv_X11_218 : SV RX11 218 10 yX10_errors cX10_errors 3 (some .int) 0 := ⟨TB5 160 rfl rfl, TB5 161 rfl rfl, TB5 162 rfl rfl, TB1 6 rfl rfl, TB5 163 rfl rfl, ⟨_, rfl, rfl⟩, by decide, by decide +kernel, by decide +kernel, by decide +kernel⟩
theorem sv_X11_221 : SV RX11 221 6 yX6_formulaAt cX6_formulaAt 2 (some (.object "SheetDoctor$Formula")) 1 := ⟨TB5 105 rfl rfl, TB4 29 rfl rfl, TB4 30 rfl rfl, TB1 3 rfl rfl, TB4 31 rfl rfl, ⟨_, rfl, rfl⟩, by decide, by decide +kernel, by decide +kernel, by decide +kernel⟩
theorem sv_X11_224 : SV RX11 224 4 yX4_stepOfSum cX4_stepOfSum 4 (some .int) 1 := ⟨TB5 106 rfl rfl, TB5 107 rfl rfl, TB5 108 rfl rfl, TB1 19 rfl rfl, TB5 109 rfl rfl, ⟨_, rfl, rfl⟩, by decide, by decide +kernel, by decide +kernel, by decide +kernel⟩
theorem sv_X11_229 : SV RX11 229 3 yX3_shortBelow cX3_shortBelow 6 (some .int) 3 := ⟨TB5 110 rfl rfl, TB4 226 rfl rfl, TB4 227 rfl rfl, TB1 10 rfl rfl, TB4 228 rfl rfl, ⟨_, rfl, rfl⟩, by decide, by decide +kernel, by decide +kernel, by decide +kernel⟩
theorem sv_X11_233 : SV RX11 233 4 yX4_stretched cX4_stretched 5 (some (.object "SheetDoctor$Formula")) 3 := ⟨TB5 111 rfl rfl, TB5 112 rfl rfl, TB5 113 rfl rfl, TB1 19 rfl rfl, TB5 114 rfl rfl, ⟨_, rfl, rfl⟩, by decide, by decide +kernel, by decide +kernel, by decide +kernel⟩
theorem sv_X11_237 : SV RX11 237 3 yX3_shortRight cX3_shortRight 6 (some .int) 3 := ⟨TB5 117 rfl rfl, TB4 239 rfl rfl, TB5 0 rfl rfl, TB1 10 rfl rfl, TB5 1 rfl rfl, ⟨_, rfl, rfl⟩, by decide, by decide +kernel, by decide +kernel, by decide +kernel⟩
theorem ol_X0_3 : Cond.methodLink RX0 3 Lib.objectInit ∈ TBg := TB1 96 rfl rfl
theorem sv_X0_31 : SV RX0 31 4 yX4_fits cX4_fits 3 (some .boolean) 1 := ⟨TB3 196 rfl rfl, TB3 197 rfl rfl, TB3 198 rfl rfl, TB1 19 rfl rfl, TB3 199 rfl rfl, ⟨_, rfl, rfl⟩, by decide, by decide +kernel, by decide +kernel, by decide +kernel⟩
theorem sc_X0_37 : SC RX0 37 yX0_init cX0_init 4 3 := ⟨TB3 235 rfl rfl, TB1 94 rfl rfl, TB1 4 rfl rfl, TB1 95 rfl rfl, rfl, by decide +kernel, by decide +kernel, by decide +kernel⟩
theorem ol_X1_3 : Cond.methodLink RX1 3 Lib.objectInit ∈ TBg := TB2 113 rfl rfl
theorem sv_X1_29 : SV RX1 29 10 yX10_valueAt cX10_valueAt 2 (some .int) 1 := ⟨TB5 91 rfl rfl, TB5 72 rfl rfl, TB5 73 rfl rfl, TB1 6 rfl rfl, TB5 74 rfl rfl, ⟨_, rfl, rfl⟩, by decide, by decide +kernel, by decide +kernel, by decide +kernel⟩
theorem sv_X1_35 : SV RX1 35 10 yX10_errorAt cX10_errorAt 2 (some .int) 1 := ⟨TB5 92 rfl rfl, TB5 68 rfl rfl, TB5 69 rfl rfl, TB1 6 rfl rfl, TB5 70 rfl rfl, ⟨_, rfl, rfl⟩, by decide, by decide +kernel, by decide +kernel, by decide +kernel⟩
theorem ol_X2_3 : Cond.methodLink RX2 3 Lib.objectInit ∈ TBg := TB1 237 rfl rfl
theorem sv_X2_32 : SV RX2 32 6 yX6_formulaAt cX6_formulaAt 2 (some (.object "SheetDoctor$Formula")) 1 := ⟨TB4 28 rfl rfl, TB4 29 rfl rfl, TB4 30 rfl rfl, TB1 3 rfl rfl, TB4 31 rfl rfl, ⟨_, rfl, rfl⟩, by decide, by decide +kernel, by decide +kernel, by decide +kernel⟩
theorem sv_X2_36 : SV RX2 36 2 yX2_familyOf cX2_familyOf 5 (some .int) 2 := ⟨TB4 32 rfl rfl, TB4 34 rfl rfl, TBp2 6 rfl, TB1 7 rfl rfl, TB4 35 rfl rfl, ⟨_, rfl, rfl⟩, by decide, by decide +kernel, by decide +kernel, by decide +kernel⟩
theorem sv_X2_40 : SV RX2 40 4 yX4_isKinOf cX4_isKinOf 3 (some .boolean) 1 := ⟨TB4 36 rfl rfl, TB4 37 rfl rfl, TB4 38 rfl rfl, TB1 19 rfl rfl, TB4 39 rfl rfl, ⟨_, rfl, rfl⟩, by decide, by decide +kernel, by decide +kernel, by decide +kernel⟩
theorem sv_X2_50 : SV RX2 50 6 yX6_kindAt cX6_kindAt 2 (some .int) 1 := ⟨TB4 205 rfl rfl, TB4 1 rfl rfl, TB4 2 rfl rfl, TB1 3 rfl rfl, TB4 3 rfl rfl, ⟨_, rfl, rfl⟩, by decide, by decide +kernel, by decide +kernel, by decide +kernel⟩
theorem sv_X2_54 : SV RX2 54 2 yX2_isStranger cX2_isStranger 4 (some .boolean) 3 := ⟨TB4 206 rfl rfl, TB4 208 rfl rfl, TBp3 9 rfl, TB1 7 rfl rfl, TB4 209 rfl rfl, ⟨_, rfl, rfl⟩, by decide, by decide +kernel, by decide +kernel, by decide +kernel⟩
theorem sv_X2_58 : SV RX2 58 2 yX2_areKin cX2_areKin 3 (some .boolean) 2 := ⟨TB4 210 rfl rfl, TB4 211 rfl rfl, TB4 212 rfl rfl, TB1 7 rfl rfl, TB4 213 rfl rfl, ⟨_, rfl, rfl⟩, by decide, by decide +kernel, by decide +kernel, by decide +kernel⟩
theorem ol_X3_3 : Cond.methodLink RX3 3 Lib.objectInit ∈ TBg := TB2 85 rfl rfl
theorem sv_X3_39 : SV RX3 39 8 yX8_gatherTwice cX8_gatherTwice 4 none 0 := ⟨TB4 163 rfl rfl, TB4 164 rfl rfl, TB4 165 rfl rfl, TB1 9 rfl rfl, TB4 166 rfl rfl, ⟨_, rfl, rfl⟩, by decide, by decide +kernel, by decide +kernel, by decide +kernel⟩
theorem sv_X3_44 : SV RX3 44 6 yX6_kindAt cX6_kindAt 2 (some .int) 1 := ⟨TB4 196 rfl rfl, TB4 1 rfl rfl, TB4 2 rfl rfl, TB1 3 rfl rfl, TB4 3 rfl rfl, ⟨_, rfl, rfl⟩, by decide, by decide +kernel, by decide +kernel, by decide +kernel⟩
theorem sv_X3_50 : SV RX3 50 3 yX3_gatherOf cX3_gatherOf 6 none 1 := ⟨TB4 197 rfl rfl, TB4 199 rfl rfl, TBp3 8 rfl, TB1 10 rfl rfl, TB4 200 rfl rfl, ⟨_, rfl, rfl⟩, by decide, by decide +kernel, by decide +kernel, by decide +kernel⟩
theorem sv_X3_54 : SV RX3 54 2 yX2_neighbourToCopy cX2_neighbourToCopy 3 (some .int) 1 := ⟨TB4 201 rfl rfl, TB4 202 rfl rfl, TB4 203 rfl rfl, TB1 7 rfl rfl, TB4 204 rfl rfl, ⟨_, rfl, rfl⟩, by decide, by decide +kernel, by decide +kernel, by decide +kernel⟩
theorem sv_X3_59 : SV RX3 59 3 yX3_add cX3_add 4 none 3 := ⟨TB4 215 rfl rfl, TB4 217 rfl rfl, TBp3 10 rfl, TB1 10 rfl rfl, TB4 218 rfl rfl, ⟨_, rfl, rfl⟩, by decide, by decide +kernel, by decide +kernel, by decide +kernel⟩
theorem sv_X3_63 : SV RX3 63 6 yX6_formulaAt cX6_formulaAt 2 (some (.object "SheetDoctor$Formula")) 1 := ⟨TB4 219 rfl rfl, TB4 29 rfl rfl, TB4 30 rfl rfl, TB1 3 rfl rfl, TB4 31 rfl rfl, ⟨_, rfl, rfl⟩, by decide, by decide +kernel, by decide +kernel, by decide +kernel⟩
theorem sv_X3_67 : SV RX3 67 3 yX3_gatherShort cX3_gatherShort 6 none 2 := ⟨TB4 220 rfl rfl, TB4 222 rfl rfl, TBp3 11 rfl, TB1 10 rfl rfl, TB4 223 rfl rfl, ⟨_, rfl, rfl⟩, by decide, by decide +kernel, by decide +kernel, by decide +kernel⟩
theorem sv_X3_71 : SV RX3 71 8 yX8_leastTwice cX8_leastTwice 3 (some .int) 1 := ⟨TB5 3 rfl rfl, TB5 4 rfl rfl, TB5 5 rfl rfl, TB1 9 rfl rfl, TB5 6 rfl rfl, ⟨_, rfl, rfl⟩, by decide, by decide +kernel, by decide +kernel, by decide +kernel⟩
theorem sv_X3_74 : SV RX3 74 6 yX6_isKept cX6_isKept 2 (some .boolean) 1 := ⟨TB5 7 rfl rfl, TB5 8 rfl rfl, TB5 9 rfl rfl, TB1 3 rfl rfl, TB5 10 rfl rfl, ⟨_, rfl, rfl⟩, by decide, by decide +kernel, by decide +kernel, by decide +kernel⟩
theorem sv_X3_78 : SV RX3 78 5 yX5_readersOf cX5_readersOf 4 (some .int) 1 := ⟨TB5 11 rfl rfl, TB5 12 rfl rfl, TB5 13 rfl rfl, TB1 5 rfl rfl, TB5 14 rfl rfl, ⟨_, rfl, rfl⟩, by decide, by decide +kernel, by decide +kernel, by decide +kernel⟩
theorem sv_X3_83 : SV RX3 83 9 yX9_clashesAt cX9_clashesAt 2 (some .boolean) 1 := ⟨TB5 15 rfl rfl, TB5 16 rfl rfl, TB5 17 rfl rfl, TB1 8 rfl rfl, TB5 18 rfl rfl, ⟨_, rfl, rfl⟩, by decide, by decide +kernel, by decide +kernel, by decide +kernel⟩
theorem sv_X3_88 : SV RX3 88 4 yX4_size cX4_size 1 (some .int) 0 := ⟨TB4 224 rfl rfl, TB4 65 rfl rfl, TB4 66 rfl rfl, TB1 19 rfl rfl, TB4 67 rfl rfl, ⟨_, rfl, rfl⟩, by decide, by decide +kernel, by decide +kernel, by decide +kernel⟩
theorem sv_X3_93 : SV RX3 93 3 yX3_shortBelow cX3_shortBelow 6 (some .int) 3 := ⟨TB4 225 rfl rfl, TB4 226 rfl rfl, TB4 227 rfl rfl, TB1 10 rfl rfl, TB4 228 rfl rfl, ⟨_, rfl, rfl⟩, by decide, by decide +kernel, by decide +kernel, by decide +kernel⟩
theorem sv_X3_97 : SV RX3 97 3 yX3_shortRight cX3_shortRight 6 (some .int) 3 := ⟨TB4 238 rfl rfl, TB4 239 rfl rfl, TB5 0 rfl rfl, TB1 10 rfl rfl, TB5 1 rfl rfl, ⟨_, rfl, rfl⟩, by decide, by decide +kernel, by decide +kernel, by decide +kernel⟩
theorem sv_X3_100 : SV RX3 100 4 yX4_stepAt cX4_stepAt 2 (some .int) 1 := ⟨TB4 229 rfl rfl, TB3 205 rfl rfl, TB3 206 rfl rfl, TB1 19 rfl rfl, TB3 207 rfl rfl, ⟨_, rfl, rfl⟩, by decide, by decide +kernel, by decide +kernel, by decide +kernel⟩
theorem sv_X3_103 : SV RX3 103 4 yX4_left cX4_left 3 (some .int) 2 := ⟨TB4 230 rfl rfl, TB3 213 rfl rfl, TB3 214 rfl rfl, TB1 19 rfl rfl, TB3 215 rfl rfl, ⟨_, rfl, rfl⟩, by decide, by decide +kernel, by decide +kernel, by decide +kernel⟩
theorem sv_X3_107 : SV RX3 107 4 yX4_right cX4_right 3 (some .int) 2 := ⟨TB4 231 rfl rfl, TB3 218 rfl rfl, TB3 219 rfl rfl, TB1 19 rfl rfl, TB3 220 rfl rfl, ⟨_, rfl, rfl⟩, by decide, by decide +kernel, by decide +kernel, by decide +kernel⟩
theorem sv_X3_110 : SV RX3 110 4 yX4_bottom cX4_bottom 3 (some .int) 2 := ⟨TB4 232 rfl rfl, TB3 227 rfl rfl, TB3 228 rfl rfl, TB1 19 rfl rfl, TB3 229 rfl rfl, ⟨_, rfl, rfl⟩, by decide, by decide +kernel, by decide +kernel, by decide +kernel⟩
theorem sv_X3_113 : SV RX3 113 3 yX3_goesOn cX3_goesOn 4 (some .boolean) 3 := ⟨TB4 233 rfl rfl, TB4 235 rfl rfl, TBp3 12 rfl, TB1 10 rfl rfl, TB4 236 rfl rfl, ⟨_, rfl, rfl⟩, by decide, by decide +kernel, by decide +kernel, by decide +kernel⟩
theorem sv_X3_117 : SV RX3 117 4 yX4_top cX4_top 3 (some .int) 2 := ⟨TB5 2 rfl rfl, TB3 222 rfl rfl, TB3 223 rfl rfl, TB1 19 rfl rfl, TB3 224 rfl rfl, ⟨_, rfl, rfl⟩, by decide, by decide +kernel, by decide +kernel, by decide +kernel⟩
theorem sv_X3_120 : SV RX3 120 2 yX2_areKin cX2_areKin 3 (some .boolean) 2 := ⟨TB4 237 rfl rfl, TB4 211 rfl rfl, TB4 212 rfl rfl, TB1 7 rfl rfl, TB4 213 rfl rfl, ⟨_, rfl, rfl⟩, by decide, by decide +kernel, by decide +kernel, by decide +kernel⟩
theorem ol_X4_5 : Cond.methodLink RX4 5 Lib.objectInit ∈ TBg := TB3 131 rfl rfl
theorem sv_X4_27 : SV RX4 27 4 yX4_stepAt cX4_stepAt 2 (some .int) 1 := ⟨TB3 204 rfl rfl, TB3 205 rfl rfl, TB3 206 rfl rfl, TB1 19 rfl rfl, TB3 207 rfl rfl, ⟨_, rfl, rfl⟩, by decide, by decide +kernel, by decide +kernel, by decide +kernel⟩
theorem ss_X4_31 : SS RX4 31 yX4_columnOf cX4_columnOf 3 (some .int) 2 := ⟨TB3 216 rfl rfl, TB3 117 rfl rfl, TB1 19 rfl rfl, TB3 118 rfl rfl, by decide +kernel, by decide +kernel, by decide +kernel⟩
theorem ss_X4_35 : SS RX4 35 yX4_rowOf cX4_rowOf 3 (some .int) 2 := ⟨TB3 225 rfl rfl, TB3 120 rfl rfl, TB1 19 rfl rfl, TB3 121 rfl rfl, by decide +kernel, by decide +kernel, by decide +kernel⟩
theorem sv_X4_38 : SV RX4 38 4 yX4_left cX4_left 3 (some .int) 2 := ⟨TB3 212 rfl rfl, TB3 213 rfl rfl, TB3 214 rfl rfl, TB1 19 rfl rfl, TB3 215 rfl rfl, ⟨_, rfl, rfl⟩, by decide, by decide +kernel, by decide +kernel, by decide +kernel⟩
theorem sv_X4_41 : SV RX4 41 4 yX4_right cX4_right 3 (some .int) 2 := ⟨TB3 217 rfl rfl, TB3 218 rfl rfl, TB3 219 rfl rfl, TB1 19 rfl rfl, TB3 220 rfl rfl, ⟨_, rfl, rfl⟩, by decide, by decide +kernel, by decide +kernel, by decide +kernel⟩
theorem sv_X4_44 : SV RX4 44 4 yX4_bottom cX4_bottom 3 (some .int) 2 := ⟨TB3 226 rfl rfl, TB3 227 rfl rfl, TB3 228 rfl rfl, TB1 19 rfl rfl, TB3 229 rfl rfl, ⟨_, rfl, rfl⟩, by decide, by decide +kernel, by decide +kernel, by decide +kernel⟩
theorem sv_X4_47 : SV RX4 47 4 yX4_top cX4_top 3 (some .int) 2 := ⟨TB3 221 rfl rfl, TB3 222 rfl rfl, TB3 223 rfl rfl, TB1 19 rfl rfl, TB3 224 rfl rfl, ⟨_, rfl, rfl⟩, by decide, by decide +kernel, by decide +kernel, by decide +kernel⟩
theorem sv_X4_50 : SV RX4 50 4 yX4_readsAt cX4_readsAt 3 (some .boolean) 1 := ⟨TB3 200 rfl rfl, TB3 201 rfl rfl, TB3 202 rfl rfl, TB1 19 rfl rfl, TB3 203 rfl rfl, ⟨_, rfl, rfl⟩, by decide, by decide +kernel, by decide +kernel, by decide +kernel⟩
theorem sv_X4_54 : SV RX4 54 4 yX4_spanFits cX4_spanFits 3 (some .boolean) 2 := ⟨TB3 208 rfl rfl, TB3 210 rfl rfl, TBp2 5 rfl, TB1 19 rfl rfl, TB3 211 rfl rfl, ⟨_, rfl, rfl⟩, by decide, by decide +kernel, by decide +kernel, by decide +kernel⟩
theorem sc_X4_58 : SC RX4 58 yX4_init cX4_init 6 4 := ⟨TB5 116 rfl rfl, TB3 129 rfl rfl, TB1 19 rfl rfl, TB3 130 rfl rfl, rfl, by decide +kernel, by decide +kernel, by decide +kernel⟩
theorem ol_X5_3 : Cond.methodLink RX5 3 Lib.objectInit ∈ TBg := TB1 159 rfl rfl
theorem sv_X5_49 : SV RX5 49 5 yX5_forgetReads cX5_forgetReads 3 none 0 := ⟨TB4 48 rfl rfl, TB4 50 rfl rfl, TBp2 7 rfl, TB1 5 rfl rfl, TB4 51 rfl rfl, ⟨_, rfl, rfl⟩, by decide, by decide +kernel, by decide +kernel, by decide +kernel⟩
theorem sv_X5_52 : SV RX5 52 5 yX5_gatherReads cX5_gatherReads 3 none 0 := ⟨TB4 52 rfl rfl, TB4 54 rfl rfl, TBp2 8 rfl, TB1 5 rfl rfl, TB4 55 rfl rfl, ⟨_, rfl, rfl⟩, by decide, by decide +kernel, by decide +kernel, by decide +kernel⟩
theorem sv_X5_61 : SV RX5 61 5 yX5_formulasReadBy cX5_formulasReadBy 4 (some .int) 1 := ⟨TB4 73 rfl rfl, TB4 75 rfl rfl, TBp2 10 rfl, TB1 5 rfl rfl, TB4 76 rfl rfl, ⟨_, rfl, rfl⟩, by decide, by decide +kernel, by decide +kernel, by decide +kernel⟩
theorem sv_X5_65 : SV RX5 65 5 yX5_appendToOrder cX5_appendToOrder 2 none 1 := ⟨TB4 83 rfl rfl, TB4 85 rfl rfl, TBp2 11 rfl, TB1 5 rfl rfl, TB4 86 rfl rfl, ⟨_, rfl, rfl⟩, by decide, by decide +kernel, by decide +kernel, by decide +kernel⟩
theorem sv_X5_69 : SV RX5 69 5 yX5_release cX5_release 5 none 1 := ⟨TB4 87 rfl rfl, TB4 89 rfl rfl, TBp2 12 rfl, TB1 5 rfl rfl, TB4 90 rfl rfl, ⟨_, rfl, rfl⟩, by decide, by decide +kernel, by decide +kernel, by decide +kernel⟩
theorem sv_X5_72 : SV RX5 72 5 yX5_findRings cX5_findRings 3 none 0 := ⟨TB4 94 rfl rfl, TB4 96 rfl rfl, TBp2 13 rfl, TB1 5 rfl rfl, TB4 97 rfl rfl, ⟨_, rfl, rfl⟩, by decide, by decide +kernel, by decide +kernel, by decide +kernel⟩
theorem ss_X5_79 : SS RX5 79 yJ13_bitCount_95d88 cJ13_bitCount_95d88 2 (some .int) 1 := ⟨TB4 77 rfl rfl, TB4 78 rfl rfl, TB1 22 rfl rfl, TB4 79 rfl rfl, by decide +kernel, by decide +kernel, by decide +kernel⟩
theorem sv_X5_89 : SV RX5 89 6 yX6_formulaAt cX6_formulaAt 2 (some (.object "SheetDoctor$Formula")) 1 := ⟨TB4 56 rfl rfl, TB4 29 rfl rfl, TB4 30 rfl rfl, TB1 3 rfl rfl, TB4 31 rfl rfl, ⟨_, rfl, rfl⟩, by decide, by decide +kernel, by decide +kernel, by decide +kernel⟩
theorem sv_X5_97 : SV RX5 97 5 yX5_gatherReadsOf cX5_gatherReadsOf 6 none 2 := ⟨TB4 60 rfl rfl, TB4 62 rfl rfl, TBp2 9 rfl, TB1 5 rfl rfl, TB4 63 rfl rfl, ⟨_, rfl, rfl⟩, by decide, by decide +kernel, by decide +kernel, by decide +kernel⟩
theorem sv_X5_101 : SV RX5 101 4 yX4_size cX4_size 1 (some .int) 0 := ⟨TB4 64 rfl rfl, TB4 65 rfl rfl, TB4 66 rfl rfl, TB1 19 rfl rfl, TB4 67 rfl rfl, ⟨_, rfl, rfl⟩, by decide, by decide +kernel, by decide +kernel, by decide +kernel⟩
theorem sv_X5_107 : SV RX5 107 4 yX4_readsAt cX4_readsAt 3 (some .boolean) 1 := ⟨TB4 68 rfl rfl, TB3 201 rfl rfl, TB3 202 rfl rfl, TB1 19 rfl rfl, TB3 203 rfl rfl, ⟨_, rfl, rfl⟩, by decide, by decide +kernel, by decide +kernel, by decide +kernel⟩
theorem sv_X5_110 : SV RX5 110 4 yX4_listPlaces cX4_listPlaces 10 (some .int) 3 := ⟨TB4 69 rfl rfl, TB4 70 rfl rfl, TB4 71 rfl rfl, TB1 19 rfl rfl, TB4 72 rfl rfl, ⟨_, rfl, rfl⟩, by decide, by decide +kernel, by decide +kernel, by decide +kernel⟩
theorem sv_X5_120 : SV RX5 120 5 yX5_reachThrough cX5_reachThrough 5 none 1 := ⟨TB4 99 rfl rfl, TB4 101 rfl rfl, TBp2 14 rfl, TB1 5 rfl rfl, TB4 102 rfl rfl, ⟨_, rfl, rfl⟩, by decide, by decide +kernel, by decide +kernel, by decide +kernel⟩
theorem ol_X6_3 : Cond.methodLink RX6 3 Lib.objectInit ∈ TBg := TB1 90 rfl rfl
theorem sc_X6_11 : SC RX6 11 yX0_init cX0_init 4 3 := ⟨TB1 93 rfl rfl, TB1 94 rfl rfl, TB1 4 rfl rfl, TB1 95 rfl rfl, rfl, by decide +kernel, by decide +kernel, by decide +kernel⟩
theorem sv_X6_53 : SV RX6 53 6 yX6_at cX6_at 2 (some (.object "SheetDoctor$Cell")) 1 := ⟨TB3 167 rfl rfl, TB3 168 rfl rfl, TB3 169 rfl rfl, TB1 3 rfl rfl, TB3 170 rfl rfl, ⟨_, rfl, rfl⟩, by decide, by decide +kernel, by decide +kernel, by decide +kernel⟩
theorem sv_X6_57 : SV RX6 57 0 yX0_fits cX0_fits 2 (some .boolean) 1 := ⟨TB3 192 rfl rfl, TB3 193 rfl rfl, TB3 194 rfl rfl, TB1 4 rfl rfl, TB3 195 rfl rfl, ⟨_, rfl, rfl⟩, by decide, by decide +kernel, by decide +kernel, by decide +kernel⟩
theorem sv_X6_60 : SV RX6 60 0 yX0_withoutUnit cX0_withoutUnit 1 (some (.object "SheetDoctor$Cell")) 0 := ⟨TB3 230 rfl rfl, TB3 231 rfl rfl, TB3 232 rfl rfl, TB1 4 rfl rfl, TB3 233 rfl rfl, ⟨_, rfl, rfl⟩, by decide, by decide +kernel, by decide +kernel, by decide +kernel⟩
theorem sv_X6_64 : SV RX6 64 6 yX6_forgetOldest cX6_forgetOldest 2 none 0 := ⟨TB3 163 rfl rfl, TB3 165 rfl rfl, TBp2 4 rfl, TB1 3 rfl rfl, TB3 166 rfl rfl, ⟨_, rfl, rfl⟩, by decide, by decide +kernel, by decide +kernel, by decide +kernel⟩
theorem sv_X6_67 : SV RX6 67 6 yX6_replace cX6_replace 3 none 2 := ⟨TB3 172 rfl rfl, TB3 173 rfl rfl, TB3 174 rfl rfl, TB1 3 rfl rfl, TB3 175 rfl rfl, ⟨_, rfl, rfl⟩, by decide, by decide +kernel, by decide +kernel, by decide +kernel⟩
theorem ol_X7_3 : Cond.methodLink RX7 3 Lib.objectInit ∈ TBg := TB1 40 rfl rfl
theorem sv_X7_47 : SV RX7 47 7 yX7_findTokens cX7_findTokens 3 none 0 := ⟨TB2 177 rfl rfl, TB2 179 rfl rfl, TBp1 0 rfl, TB1 2 rfl rfl, TB2 180 rfl rfl, ⟨_, rfl, rfl⟩, by decide, by decide +kernel, by decide +kernel, by decide +kernel⟩
theorem sv_X7_53 : SV RX7 53 7 yX7_sum cX7_sum 4 (some .boolean) 1 := ⟨TB3 55 rfl rfl, TB3 57 rfl rfl, TBp1 6 rfl, TB1 2 rfl rfl, TB3 58 rfl rfl, ⟨_, rfl, rfl⟩, by decide, by decide +kernel, by decide +kernel, by decide +kernel⟩
theorem sv_X7_57 : SV RX7 57 7 yX7_kind cX7_kind 1 (some .int) 0 := ⟨TB3 71 rfl rfl, TB3 73 rfl rfl, TBp1 10 rfl, TB1 2 rfl rfl, TB3 74 rfl rfl, ⟨_, rfl, rfl⟩, by decide, by decide +kernel, by decide +kernel, by decide +kernel⟩
theorem sv_X7_61 : SV RX7 61 7 yX7_wrong cX7_wrong 3 (some .boolean) 1 := ⟨TB3 79 rfl rfl, TB3 81 rfl rfl, TBp1 12 rfl, TB1 2 rfl rfl, TB3 82 rfl rfl, ⟨_, rfl, rfl⟩, by decide, by decide +kernel, by decide +kernel, by decide +kernel⟩
theorem sc_X7_66 : SC RX7 66 yX4_init cX4_init 6 4 := ⟨TB3 128 rfl rfl, TB3 129 rfl rfl, TB1 19 rfl rfl, TB3 130 rfl rfl, rfl, by decide +kernel, by decide +kernel, by decide +kernel⟩
theorem sv_X7_72 : SV RX7 72 7 yX7_endOfToken cX7_endOfToken 3 (some .int) 1 := ⟨TB2 181 rfl rfl, TB2 183 rfl rfl, TBp1 1 rfl, TB1 2 rfl rfl, TB2 184 rfl rfl, ⟨_, rfl, rfl⟩, by decide, by decide +kernel, by decide +kernel, by decide +kernel⟩
theorem ss_X7_76 : SS RX7 76 yJ9_max_7cf53 cJ9_max_7cf53 2 (some .int) 2 := ⟨TB2 191 rfl rfl, TB2 192 rfl rfl, TB1 13 rfl rfl, TB2 193 rfl rfl, by decide +kernel, by decide +kernel, by decide +kernel⟩
theorem sv_X7_82 : SV RX7 82 7 yX7_kindOf cX7_kindOf 4 (some .int) 2 := ⟨TB2 194 rfl rfl, TB2 196 rfl rfl, TBp1 2 rfl, TB1 2 rfl rfl, TB2 197 rfl rfl, ⟨_, rfl, rfl⟩, by decide, by decide +kernel, by decide +kernel, by decide +kernel⟩
theorem sv_X7_85 : SV RX7 85 7 yX7_addToken cX7_addToken 4 none 3 := ⟨TB3 43 rfl rfl, TB3 45 rfl rfl, TBp1 3 rfl, TB1 2 rfl rfl, TB3 46 rfl rfl, ⟨_, rfl, rfl⟩, by decide, by decide +kernel, by decide +kernel, by decide +kernel⟩
theorem ss_X7_89 : SS RX7 89 yX7_isLetter cX7_isLetter 1 (some .boolean) 1 := ⟨TB2 185 rfl rfl, TB2 186 rfl rfl, TB1 2 rfl rfl, TB2 187 rfl rfl, by decide +kernel, by decide +kernel, by decide +kernel⟩
theorem ss_X7_93 : SS RX7 93 yX7_isDigit cX7_isDigit 1 (some .boolean) 1 := ⟨TB2 188 rfl rfl, TB2 189 rfl rfl, TB1 2 rfl rfl, TB2 190 rfl rfl, by decide +kernel, by decide +kernel, by decide +kernel⟩
theorem sv_X7_103 : SV RX7 103 7 yX7_wordAmount cX7_wordAmount 4 (some .int) 2 := ⟨TB3 47 rfl rfl, TB3 49 rfl rfl, TBp1 4 rfl, TB1 2 rfl rfl, TB3 50 rfl rfl, ⟨_, rfl, rfl⟩, by decide, by decide +kernel, by decide +kernel, by decide +kernel⟩
theorem sv_X7_106 : SV RX7 106 7 yX7_digitsAmount cX7_digitsAmount 5 (some .int) 2 := ⟨TB3 51 rfl rfl, TB3 53 rfl rfl, TBp1 5 rfl, TB1 2 rfl rfl, TB3 54 rfl rfl, ⟨_, rfl, rfl⟩, by decide, by decide +kernel, by decide +kernel, by decide +kernel⟩
theorem sv_X7_109 : SV RX7 109 7 yX7_product cX7_product 4 (some .boolean) 1 := ⟨TB3 59 rfl rfl, TB3 61 rfl rfl, TBp1 7 rfl, TB1 2 rfl rfl, TB3 62 rfl rfl, ⟨_, rfl, rfl⟩, by decide, by decide +kernel, by decide +kernel, by decide +kernel⟩
theorem sv_X7_112 : SV RX7 112 7 yX7_add cX7_add 4 none 3 := ⟨TB3 91 rfl rfl, TB3 93 rfl rfl, TBp1 15 rfl, TB1 2 rfl rfl, TB3 94 rfl rfl, ⟨_, rfl, rfl⟩, by decide, by decide +kernel, by decide +kernel, by decide +kernel⟩
theorem sv_X7_115 : SV RX7 115 7 yX7_part cX7_part 2 (some .boolean) 1 := ⟨TB3 63 rfl rfl, TB3 65 rfl rfl, TBp1 8 rfl, TB1 2 rfl rfl, TB3 66 rfl rfl, ⟨_, rfl, rfl⟩, by decide, by decide +kernel, by decide +kernel, by decide +kernel⟩
theorem sv_X7_118 : SV RX7 118 7 yX7_startsPart cX7_startsPart 1 (some .boolean) 0 := ⟨TB3 67 rfl rfl, TB3 69 rfl rfl, TBp1 9 rfl, TB1 2 rfl rfl, TB3 70 rfl rfl, ⟨_, rfl, rfl⟩, by decide, by decide +kernel, by decide +kernel, by decide +kernel⟩
theorem sv_X7_122 : SV RX7 122 7 yX7_brackets cX7_brackets 2 (some .boolean) 1 := ⟨TB3 83 rfl rfl, TB3 85 rfl rfl, TBp1 13 rfl, TB1 2 rfl rfl, TB3 86 rfl rfl, ⟨_, rfl, rfl⟩, by decide, by decide +kernel, by decide +kernel, by decide +kernel⟩
theorem sv_X7_125 : SV RX7 125 7 yX7_negated cX7_negated 2 (some .boolean) 1 := ⟨TB3 95 rfl rfl, TB3 97 rfl rfl, TBp2 0 rfl, TB1 2 rfl rfl, TB3 98 rfl rfl, ⟨_, rfl, rfl⟩, by decide, by decide +kernel, by decide +kernel, by decide +kernel⟩
theorem sv_X7_128 : SV RX7 128 7 yX7_amount cX7_amount 1 (some .int) 0 := ⟨TB3 75 rfl rfl, TB3 77 rfl rfl, TBp1 11 rfl, TB1 2 rfl rfl, TB3 78 rfl rfl, ⟨_, rfl, rfl⟩, by decide, by decide +kernel, by decide +kernel, by decide +kernel⟩
theorem sv_X7_131 : SV RX7 131 7 yX7_span cX7_span 3 (some .boolean) 0 := ⟨TB3 99 rfl rfl, TB3 101 rfl rfl, TBp2 1 rfl, TB1 2 rfl rfl, TB3 102 rfl rfl, ⟨_, rfl, rfl⟩, by decide, by decide +kernel, by decide +kernel, by decide +kernel⟩
theorem sv_X7_134 : SV RX7 134 7 yX7_single cX7_single 2 (some .boolean) 0 := ⟨TB3 122 rfl rfl, TB3 124 rfl rfl, TBp2 3 rfl, TB1 2 rfl rfl, TB3 125 rfl rfl, ⟨_, rfl, rfl⟩, by decide, by decide +kernel, by decide +kernel, by decide +kernel⟩
theorem sv_X7_137 : SV RX7 137 7 yX7_take cX7_take 2 (some .boolean) 1 := ⟨TB3 87 rfl rfl, TB3 89 rfl rfl, TBp1 14 rfl, TB1 2 rfl rfl, TB3 90 rfl rfl, ⟨_, rfl, rfl⟩, by decide, by decide +kernel, by decide +kernel, by decide +kernel⟩
theorem sv_X7_140 : SV RX7 140 7 yX7_reference cX7_reference 9 (some .int) 2 := ⟨TB3 103 rfl rfl, TB3 105 rfl rfl, TBp2 2 rfl, TB1 2 rfl rfl, TB3 106 rfl rfl, ⟨_, rfl, rfl⟩, by decide, by decide +kernel, by decide +kernel, by decide +kernel⟩
theorem ss_X7_143 : SS RX7 143 yX4_columnOf cX4_columnOf 3 (some .int) 2 := ⟨TB3 116 rfl rfl, TB3 117 rfl rfl, TB1 19 rfl rfl, TB3 118 rfl rfl, by decide +kernel, by decide +kernel, by decide +kernel⟩
theorem ss_X7_146 : SS RX7 146 yX4_rowOf cX4_rowOf 3 (some .int) 2 := ⟨TB3 119 rfl rfl, TB3 120 rfl rfl, TB1 19 rfl rfl, TB3 121 rfl rfl, by decide +kernel, by decide +kernel, by decide +kernel⟩
theorem ss_X7_149 : SS RX7 149 yX7_columnFault cX7_columnFault 3 (some .int) 3 := ⟨TB3 107 rfl rfl, TB3 108 rfl rfl, TB1 2 rfl rfl, TB3 109 rfl rfl, by decide +kernel, by decide +kernel, by decide +kernel⟩
theorem ss_X7_153 : SS RX7 153 yX7_rowFault cX7_rowFault 3 (some .int) 3 := ⟨TB3 110 rfl rfl, TB3 111 rfl rfl, TB1 2 rfl rfl, TB3 112 rfl rfl, by decide +kernel, by decide +kernel, by decide +kernel⟩
theorem ss_X7_156 : SS RX7 156 yX4_reference cX4_reference 7 (some .int) 4 := ⟨TB3 113 rfl rfl, TB3 114 rfl rfl, TB1 19 rfl rfl, TB3 115 rfl rfl, by decide +kernel, by decide +kernel, by decide +kernel⟩
theorem ol_X8_3 : Cond.methodLink RX8 3 Lib.objectInit ∈ TBg := TB2 54 rfl rfl
theorem sv_X8_44 : SV RX8 44 5 yX5_settle cX5_settle 3 none 0 := ⟨TB4 152 rfl rfl, TB4 45 rfl rfl, TB4 46 rfl rfl, TB1 5 rfl rfl, TB4 47 rfl rfl, ⟨_, rfl, rfl⟩, by decide, by decide +kernel, by decide +kernel, by decide +kernel⟩
theorem sv_X8_49 : SV RX8 49 6 yX6_formulaAt cX6_formulaAt 2 (some (.object "SheetDoctor$Formula")) 1 := ⟨TB4 153 rfl rfl, TB4 29 rfl rfl, TB4 30 rfl rfl, TB1 3 rfl rfl, TB4 31 rfl rfl, ⟨_, rfl, rfl⟩, by decide, by decide +kernel, by decide +kernel, by decide +kernel⟩
theorem sv_X8_53 : SV RX8 53 4 yX4_isOfReadsAndPlus cX4_isOfReadsAndPlus 2 (some .boolean) 0 := ⟨TB4 154 rfl rfl, TB4 155 rfl rfl, TB4 156 rfl rfl, TB1 19 rfl rfl, TB4 157 rfl rfl, ⟨_, rfl, rfl⟩, by decide, by decide +kernel, by decide +kernel, by decide +kernel⟩
theorem sv_X8_59 : SV RX8 59 5 yX5_inRing cX5_inRing 2 (some .boolean) 1 := ⟨TB4 158 rfl rfl, TB4 115 rfl rfl, TB4 116 rfl rfl, TB1 5 rfl rfl, TB4 117 rfl rfl, ⟨_, rfl, rfl⟩, by decide, by decide +kernel, by decide +kernel, by decide +kernel⟩
theorem sv_X8_66 : SV RX8 66 8 yX8_isTotal cX8_isTotal 2 (some .boolean) 1 := ⟨TB4 169 rfl rfl, TB4 170 rfl rfl, TB4 171 rfl rfl, TB1 9 rfl rfl, TB4 172 rfl rfl, ⟨_, rfl, rfl⟩, by decide, by decide +kernel, by decide +kernel, by decide +kernel⟩
theorem sv_X8_69 : SV RX8 69 6 yX6_kindAt cX6_kindAt 2 (some .int) 1 := ⟨TB4 193 rfl rfl, TB4 1 rfl rfl, TB4 2 rfl rfl, TB1 3 rfl rfl, TB4 3 rfl rfl, ⟨_, rfl, rfl⟩, by decide, by decide +kernel, by decide +kernel, by decide +kernel⟩
theorem sv_X8_73 : SV RX8 73 5 yX5_orderSize cX5_orderSize 1 (some .int) 0 := ⟨TB4 167 rfl rfl, TB4 105 rfl rfl, TB4 106 rfl rfl, TB1 5 rfl rfl, TB4 107 rfl rfl, ⟨_, rfl, rfl⟩, by decide, by decide +kernel, by decide +kernel, by decide +kernel⟩
theorem sv_X8_77 : SV RX8 77 5 yX5_inOrder cX5_inOrder 2 (some .int) 1 := ⟨TB4 168 rfl rfl, TB4 109 rfl rfl, TB4 110 rfl rfl, TB1 5 rfl rfl, TB4 111 rfl rfl, ⟨_, rfl, rfl⟩, by decide, by decide +kernel, by decide +kernel, by decide +kernel⟩
theorem sv_X8_80 : SV RX8 80 8 yX8_waysThrough cX8_waysThrough 8 (some .int) 3 := ⟨TB5 143 rfl rfl, TB5 145 rfl rfl, TBp4 4 rfl, TB1 9 rfl rfl, TB5 146 rfl rfl, ⟨_, rfl, rfl⟩, by decide, by decide +kernel, by decide +kernel, by decide +kernel⟩
theorem sv_X8_84 : SV RX8 84 4 yX4_size cX4_size 1 (some .int) 0 := ⟨TB4 182 rfl rfl, TB4 65 rfl rfl, TB4 66 rfl rfl, TB1 19 rfl rfl, TB4 67 rfl rfl, ⟨_, rfl, rfl⟩, by decide, by decide +kernel, by decide +kernel, by decide +kernel⟩
theorem sv_X8_87 : SV RX8 87 4 yX4_readsAt cX4_readsAt 3 (some .boolean) 1 := ⟨TB4 183 rfl rfl, TB3 201 rfl rfl, TB3 202 rfl rfl, TB1 19 rfl rfl, TB3 203 rfl rfl, ⟨_, rfl, rfl⟩, by decide, by decide +kernel, by decide +kernel, by decide +kernel⟩
theorem sv_X8_90 : SV RX8 90 4 yX4_listPlaces cX4_listPlaces 10 (some .int) 3 := ⟨TB4 184 rfl rfl, TB4 70 rfl rfl, TB4 71 rfl rfl, TB1 19 rfl rfl, TB4 72 rfl rfl, ⟨_, rfl, rfl⟩, by decide, by decide +kernel, by decide +kernel, by decide +kernel⟩
theorem sv_X8_94 : SV RX8 94 8 yX8_waysBy cX8_waysBy 3 (some .int) 2 := ⟨TB5 147 rfl rfl, TB5 149 rfl rfl, TBp4 5 rfl, TB1 9 rfl rfl, TB5 150 rfl rfl, ⟨_, rfl, rfl⟩, by decide, by decide +kernel, by decide +kernel, by decide +kernel⟩
theorem ss_X8_98 : SS RX8 98 yJ9_min_7cf53 cJ9_min_7cf53 2 (some .int) 2 := ⟨TB5 151 rfl rfl, TB2 229 rfl rfl, TB1 13 rfl rfl, TB2 230 rfl rfl, by decide +kernel, by decide +kernel, by decide +kernel⟩
theorem sv_X8_103 : SV RX8 103 8 yX8_forgetTwiceOf cX8_forgetTwiceOf 3 none 1 := ⟨TB4 174 rfl rfl, TB4 176 rfl rfl, TBp3 4 rfl, TB1 9 rfl rfl, TB4 177 rfl rfl, ⟨_, rfl, rfl⟩, by decide, by decide +kernel, by decide +kernel, by decide +kernel⟩
theorem sv_X8_107 : SV RX8 107 8 yX8_gatherTwiceOf cX8_gatherTwiceOf 6 none 2 := ⟨TB4 178 rfl rfl, TB4 180 rfl rfl, TBp3 5 rfl, TB1 9 rfl rfl, TB4 181 rfl rfl, ⟨_, rfl, rfl⟩, by decide, by decide +kernel, by decide +kernel, by decide +kernel⟩
theorem sv_X8_111 : SV RX8 111 8 yX8_addRead cX8_addRead 3 none 2 := ⟨TB4 185 rfl rfl, TB4 187 rfl rfl, TBp3 6 rfl, TB1 9 rfl rfl, TB4 188 rfl rfl, ⟨_, rfl, rfl⟩, by decide, by decide +kernel, by decide +kernel, by decide +kernel⟩
theorem sv_X8_115 : SV RX8 115 8 yX8_addWaysOf cX8_addWaysOf 6 none 2 := ⟨TB4 189 rfl rfl, TB4 191 rfl rfl, TBp3 7 rfl, TB1 9 rfl rfl, TB4 192 rfl rfl, ⟨_, rfl, rfl⟩, by decide, by decide +kernel, by decide +kernel, by decide +kernel⟩
theorem ol_X9_3 : Cond.methodLink RX9 3 Lib.objectInit ∈ TBg := TB2 20 rfl rfl
theorem sv_X9_40 : SV RX9 40 5 yX5_settle cX5_settle 3 none 0 := ⟨TB4 44 rfl rfl, TB4 45 rfl rfl, TB4 46 rfl rfl, TB1 5 rfl rfl, TB4 47 rfl rfl, ⟨_, rfl, rfl⟩, by decide, by decide +kernel, by decide +kernel, by decide +kernel⟩
theorem sv_X9_45 : SV RX9 45 6 yX6_at cX6_at 2 (some (.object "SheetDoctor$Cell")) 1 := ⟨TB4 103 rfl rfl, TB3 168 rfl rfl, TB3 169 rfl rfl, TB1 3 rfl rfl, TB3 170 rfl rfl, ⟨_, rfl, rfl⟩, by decide, by decide +kernel, by decide +kernel, by decide +kernel⟩
theorem sv_X9_60 : SV RX9 60 5 yX5_orderSize cX5_orderSize 1 (some .int) 0 := ⟨TB4 104 rfl rfl, TB4 105 rfl rfl, TB4 106 rfl rfl, TB1 5 rfl rfl, TB4 107 rfl rfl, ⟨_, rfl, rfl⟩, by decide, by decide +kernel, by decide +kernel, by decide +kernel⟩
theorem sv_X9_64 : SV RX9 64 5 yX5_inOrder cX5_inOrder 2 (some .int) 1 := ⟨TB4 108 rfl rfl, TB4 109 rfl rfl, TB4 110 rfl rfl, TB1 5 rfl rfl, TB4 111 rfl rfl, ⟨_, rfl, rfl⟩, by decide, by decide +kernel, by decide +kernel, by decide +kernel⟩
theorem sv_X9_68 : SV RX9 68 6 yX6_formulaAt cX6_formulaAt 2 (some (.object "SheetDoctor$Formula")) 1 := ⟨TB4 112 rfl rfl, TB4 29 rfl rfl, TB4 30 rfl rfl, TB1 3 rfl rfl, TB4 31 rfl rfl, ⟨_, rfl, rfl⟩, by decide, by decide +kernel, by decide +kernel, by decide +kernel⟩
theorem sv_X9_76 : SV RX9 76 5 yX5_inRing cX5_inRing 2 (some .boolean) 1 := ⟨TB4 114 rfl rfl, TB4 115 rfl rfl, TB4 116 rfl rfl, TB1 5 rfl rfl, TB4 117 rfl rfl, ⟨_, rfl, rfl⟩, by decide, by decide +kernel, by decide +kernel, by decide +kernel⟩
theorem sv_X9_79 : SV RX9 79 9 yX9_workOut cX9_workOut 5 none 2 := ⟨TB4 119 rfl rfl, TB4 121 rfl rfl, TBp2 15 rfl, TB1 8 rfl rfl, TB4 122 rfl rfl, ⟨_, rfl, rfl⟩, by decide, by decide +kernel, by decide +kernel, by decide +kernel⟩
theorem sv_X9_90 : SV RX9 90 4 yX4_size cX4_size 1 (some .int) 0 := ⟨TB4 123 rfl rfl, TB4 65 rfl rfl, TB4 66 rfl rfl, TB1 19 rfl rfl, TB4 67 rfl rfl, ⟨_, rfl, rfl⟩, by decide, by decide +kernel, by decide +kernel, by decide +kernel⟩
theorem sv_X9_95 : SV RX9 95 4 yX4_stepAt cX4_stepAt 2 (some .int) 1 := ⟨TB4 124 rfl rfl, TB3 205 rfl rfl, TB3 206 rfl rfl, TB1 19 rfl rfl, TB3 207 rfl rfl, ⟨_, rfl, rfl⟩, by decide, by decide +kernel, by decide +kernel, by decide +kernel⟩
theorem sv_X9_98 : SV RX9 98 9 yX9_pushUnitOf cX9_pushUnitOf 3 none 1 := ⟨TB4 125 rfl rfl, TB4 127 rfl rfl, TBp3 0 rfl, TB1 8 rfl rfl, TB4 128 rfl rfl, ⟨_, rfl, rfl⟩, by decide, by decide +kernel, by decide +kernel, by decide +kernel⟩
theorem sv_X9_102 : SV RX9 102 4 yX4_readsAt cX4_readsAt 3 (some .boolean) 1 := ⟨TB4 133 rfl rfl, TB3 201 rfl rfl, TB3 202 rfl rfl, TB1 19 rfl rfl, TB3 203 rfl rfl, ⟨_, rfl, rfl⟩, by decide, by decide +kernel, by decide +kernel, by decide +kernel⟩
theorem sv_X9_105 : SV RX9 105 9 yX9_firstFilled cX9_firstFilled 7 (some .int) 3 := ⟨TB4 134 rfl rfl, TB4 136 rfl rfl, TBp3 1 rfl, TB1 8 rfl rfl, TB4 137 rfl rfl, ⟨_, rfl, rfl⟩, by decide, by decide +kernel, by decide +kernel, by decide +kernel⟩
theorem sv_X9_109 : SV RX9 109 9 yX9_join cX9_join 5 none 1 := ⟨TB4 144 rfl rfl, TB4 146 rfl rfl, TBp3 3 rfl, TB1 8 rfl rfl, TB4 147 rfl rfl, ⟨_, rfl, rfl⟩, by decide, by decide +kernel, by decide +kernel, by decide +kernel⟩
theorem sv_X9_112 : SV RX9 112 4 yX4_listPlaces cX4_listPlaces 10 (some .int) 3 := ⟨TB4 138 rfl rfl, TB4 70 rfl rfl, TB4 71 rfl rfl, TB1 19 rfl rfl, TB4 72 rfl rfl, ⟨_, rfl, rfl⟩, by decide, by decide +kernel, by decide +kernel, by decide +kernel⟩
theorem sv_X9_116 : SV RX9 116 6 yX6_kindAt cX6_kindAt 2 (some .int) 1 := ⟨TB4 139 rfl rfl, TB4 1 rfl rfl, TB4 2 rfl rfl, TB1 3 rfl rfl, TB4 3 rfl rfl, ⟨_, rfl, rfl⟩, by decide, by decide +kernel, by decide +kernel, by decide +kernel⟩
theorem sv_X9_119 : SV RX9 119 9 yX9_areSame cX9_areSame 4 (some .boolean) 2 := ⟨TB4 140 rfl rfl, TB4 142 rfl rfl, TBp3 2 rfl, TB1 8 rfl rfl, TB4 143 rfl rfl, ⟨_, rfl, rfl⟩, by decide, by decide +kernel, by decide +kernel, by decide +kernel⟩
theorem sv_X9_123 : SV RX9 123 9 yX9_exponentAt cX9_exponentAt 3 (some .int) 2 := ⟨TB4 129 rfl rfl, TB4 130 rfl rfl, TB4 131 rfl rfl, TB1 8 rfl rfl, TB4 132 rfl rfl, ⟨_, rfl, rfl⟩, by decide, by decide +kernel, by decide +kernel, by decide +kernel⟩
theorem ol_X10_3 : Cond.methodLink RX10 3 Lib.objectInit ∈ TBg := TB1 203 rfl rfl
theorem sv_X10_39 : SV RX10 39 5 yX5_settle cX5_settle 3 none 0 := ⟨TB5 40 rfl rfl, TB4 45 rfl rfl, TB4 46 rfl rfl, TB1 5 rfl rfl, TB4 47 rfl rfl, ⟨_, rfl, rfl⟩, by decide, by decide +kernel, by decide +kernel, by decide +kernel⟩
theorem sv_X10_44 : SV RX10 44 6 yX6_at cX6_at 2 (some (.object "SheetDoctor$Cell")) 1 := ⟨TB5 41 rfl rfl, TB3 168 rfl rfl, TB3 169 rfl rfl, TB1 3 rfl rfl, TB3 170 rfl rfl, ⟨_, rfl, rfl⟩, by decide, by decide +kernel, by decide +kernel, by decide +kernel⟩
theorem sv_X10_53 : SV RX10 53 5 yX5_orderSize cX5_orderSize 1 (some .int) 0 := ⟨TB5 42 rfl rfl, TB4 105 rfl rfl, TB4 106 rfl rfl, TB1 5 rfl rfl, TB4 107 rfl rfl, ⟨_, rfl, rfl⟩, by decide, by decide +kernel, by decide +kernel, by decide +kernel⟩
theorem sv_X10_57 : SV RX10 57 5 yX5_inOrder cX5_inOrder 2 (some .int) 1 := ⟨TB5 43 rfl rfl, TB4 109 rfl rfl, TB4 110 rfl rfl, TB1 5 rfl rfl, TB4 111 rfl rfl, ⟨_, rfl, rfl⟩, by decide, by decide +kernel, by decide +kernel, by decide +kernel⟩
theorem sv_X10_61 : SV RX10 61 6 yX6_formulaAt cX6_formulaAt 2 (some (.object "SheetDoctor$Formula")) 1 := ⟨TB5 44 rfl rfl, TB4 29 rfl rfl, TB4 30 rfl rfl, TB1 3 rfl rfl, TB4 31 rfl rfl, ⟨_, rfl, rfl⟩, by decide, by decide +kernel, by decide +kernel, by decide +kernel⟩
theorem sv_X10_69 : SV RX10 69 10 yX10_workOut cX10_workOut 5 none 2 := ⟨TB5 46 rfl rfl, TB5 48 rfl rfl, TBp3 13 rfl, TB1 6 rfl rfl, TB5 49 rfl rfl, ⟨_, rfl, rfl⟩, by decide, by decide +kernel, by decide +kernel, by decide +kernel⟩
theorem sv_X10_73 : SV RX10 73 5 yX5_inRing cX5_inRing 2 (some .boolean) 1 := ⟨TB5 50 rfl rfl, TB4 115 rfl rfl, TB4 116 rfl rfl, TB1 5 rfl rfl, TB4 117 rfl rfl, ⟨_, rfl, rfl⟩, by decide, by decide +kernel, by decide +kernel, by decide +kernel⟩
theorem sv_X10_82 : SV RX10 82 4 yX4_size cX4_size 1 (some .int) 0 := ⟨TB5 51 rfl rfl, TB4 65 rfl rfl, TB4 66 rfl rfl, TB1 19 rfl rfl, TB4 67 rfl rfl, ⟨_, rfl, rfl⟩, by decide, by decide +kernel, by decide +kernel, by decide +kernel⟩
theorem sv_X10_87 : SV RX10 87 4 yX4_stepAt cX4_stepAt 2 (some .int) 1 := ⟨TB5 52 rfl rfl, TB3 205 rfl rfl, TB3 206 rfl rfl, TB1 19 rfl rfl, TB3 207 rfl rfl, ⟨_, rfl, rfl⟩, by decide, by decide +kernel, by decide +kernel, by decide +kernel⟩
theorem sv_X10_90 : SV RX10 90 4 yX4_constantAt cX4_constantAt 2 (some .int) 1 := ⟨TB5 53 rfl rfl, TB5 54 rfl rfl, TB5 55 rfl rfl, TB1 19 rfl rfl, TB5 56 rfl rfl, ⟨_, rfl, rfl⟩, by decide, by decide +kernel, by decide +kernel, by decide +kernel⟩
theorem sv_X10_93 : SV RX10 93 10 yX10_push cX10_push 2 none 1 := ⟨TB5 57 rfl rfl, TB5 59 rfl rfl, TBp3 14 rfl, TB1 6 rfl rfl, TB5 60 rfl rfl, ⟨_, rfl, rfl⟩, by decide, by decide +kernel, by decide +kernel, by decide +kernel⟩
theorem sv_X10_97 : SV RX10 97 4 yX4_readsAt cX4_readsAt 3 (some .boolean) 1 := ⟨TB5 61 rfl rfl, TB3 201 rfl rfl, TB3 202 rfl rfl, TB1 19 rfl rfl, TB3 203 rfl rfl, ⟨_, rfl, rfl⟩, by decide, by decide +kernel, by decide +kernel, by decide +kernel⟩
theorem sv_X10_100 : SV RX10 100 10 yX10_spanSum cX10_spanSum 7 (some .int) 3 := ⟨TB5 62 rfl rfl, TB5 64 rfl rfl, TBp3 15 rfl, TB1 6 rfl rfl, TB5 65 rfl rfl, ⟨_, rfl, rfl⟩, by decide, by decide +kernel, by decide +kernel, by decide +kernel⟩
theorem sv_X10_104 : SV RX10 104 10 yX10_pop cX10_pop 1 (some .int) 0 := ⟨TB5 75 rfl rfl, TB5 77 rfl rfl, TBp4 0 rfl, TB1 6 rfl rfl, TB5 78 rfl rfl, ⟨_, rfl, rfl⟩, by decide, by decide +kernel, by decide +kernel, by decide +kernel⟩
theorem sv_X10_107 : SV RX10 107 10 yX10_join cX10_join 4 none 1 := ⟨TB5 79 rfl rfl, TB5 81 rfl rfl, TBp4 1 rfl, TB1 6 rfl rfl, TB5 82 rfl rfl, ⟨_, rfl, rfl⟩, by decide, by decide +kernel, by decide +kernel, by decide +kernel⟩
theorem sv_X10_110 : SV RX10 110 4 yX4_listPlaces cX4_listPlaces 10 (some .int) 3 := ⟨TB5 66 rfl rfl, TB4 70 rfl rfl, TB4 71 rfl rfl, TB1 19 rfl rfl, TB4 72 rfl rfl, ⟨_, rfl, rfl⟩, by decide, by decide +kernel, by decide +kernel, by decide +kernel⟩
theorem sv_X10_114 : SV RX10 114 10 yX10_errorAt cX10_errorAt 2 (some .int) 1 := ⟨TB5 67 rfl rfl, TB5 68 rfl rfl, TB5 69 rfl rfl, TB1 6 rfl rfl, TB5 70 rfl rfl, ⟨_, rfl, rfl⟩, by decide, by decide +kernel, by decide +kernel, by decide +kernel⟩
theorem sv_X10_117 : SV RX10 117 10 yX10_valueAt cX10_valueAt 2 (some .int) 1 := ⟨TB5 71 rfl rfl, TB5 72 rfl rfl, TB5 73 rfl rfl, TB1 6 rfl rfl, TB5 74 rfl rfl, ⟨_, rfl, rfl⟩, by decide, by decide +kernel, by decide +kernel, by decide +kernel⟩
theorem sv_X10_120 : SV RX10 120 10 yX10_quotient cX10_quotient 3 (some .int) 2 := ⟨TB5 83 rfl rfl, TB5 85 rfl rfl, TBp4 2 rfl, TB1 6 rfl rfl, TB5 86 rfl rfl, ⟨_, rfl, rfl⟩, by decide, by decide +kernel, by decide +kernel, by decide +kernel⟩
theorem sv_L_7 : SV RL 7 11 yX11_cell cX11_cell 3 (some .int) 2 := ⟨TB5 168 rfl rfl, TB5 169 rfl rfl, TB5 170 rfl rfl, TB1 1 rfl rfl, TB5 171 rfl rfl, ⟨_, rfl, rfl⟩, by decide, by decide +kernel, by decide +kernel, by decide +kernel⟩
theorem sc_L_15 : SC RL 15 yX11_init cX11_init 1 0 := ⟨TB1 29 rfl rfl, TB1 30 rfl rfl, TB1 1 rfl rfl, TB1 31 rfl rfl, rfl, by decide +kernel, by decide +kernel, by decide +kernel⟩
theorem sc_L_18 : SC RL 18 yX12_init cX12_init 2 0 := ⟨TB6 25 rfl rfl, TB6 26 rfl rfl, TB1 12 rfl rfl, TB6 27 rfl rfl, rfl, by decide +kernel, by decide +kernel, by decide +kernel⟩
theorem sv_L_21 : SV RL 21 11 yX11_feed cX11_feed 7 (some .int) 3 := ⟨TB2 158 rfl rfl, TB2 159 rfl rfl, TB2 160 rfl rfl, TB1 1 rfl rfl, TB2 161 rfl rfl, ⟨_, rfl, rfl⟩, by decide, by decide +kernel, by decide +kernel, by decide +kernel⟩
theorem sv_L_25 : SV RL 25 12 yX12_feed cX12_feed 7 (some .int) 3 := ⟨TB6 15 rfl rfl, TB6 16 rfl rfl, TB6 17 rfl rfl, TB1 12 rfl rfl, TB6 18 rfl rfl, ⟨_, rfl, rfl⟩, by decide, by decide +kernel, by decide +kernel, by decide +kernel⟩
theorem sv_L_26 : SV RL 26 11 yX11_formula cX11_formula 3 (some .int) 1 := ⟨TB2 166 rfl rfl, TB2 167 rfl rfl, TB2 168 rfl rfl, TB1 1 rfl rfl, TB2 169 rfl rfl, ⟨_, rfl, rfl⟩, by decide, by decide +kernel, by decide +kernel, by decide +kernel⟩
theorem sv_L_30 : SV RL 30 12 yX12_formula cX12_formula 2 (some .int) 1 := ⟨TB6 161 rfl rfl, TB6 162 rfl rfl, TB6 163 rfl rfl, TB1 12 rfl rfl, TB6 164 rfl rfl, ⟨_, rfl, rfl⟩, by decide, by decide +kernel, by decide +kernel, by decide +kernel⟩
theorem sv_L_31 : SV RL 31 11 yX11_number cX11_number 3 (some .boolean) 2 := ⟨TB3 176 rfl rfl, TB3 177 rfl rfl, TB3 178 rfl rfl, TB1 1 rfl rfl, TB3 179 rfl rfl, ⟨_, rfl, rfl⟩, by decide, by decide +kernel, by decide +kernel, by decide +kernel⟩
theorem sv_L_35 : SV RL 35 12 yX12_number cX12_number 3 (some .boolean) 2 := ⟨TB7 115 rfl rfl, TB7 116 rfl rfl, TB7 117 rfl rfl, TB1 12 rfl rfl, TB7 118 rfl rfl, ⟨_, rfl, rfl⟩, by decide, by decide +kernel, by decide +kernel, by decide +kernel⟩
theorem sv_L_36 : SV RL 36 11 yX11_empty cX11_empty 2 (some .boolean) 1 := ⟨TB3 180 rfl rfl, TB3 181 rfl rfl, TB3 182 rfl rfl, TB1 1 rfl rfl, TB3 183 rfl rfl, ⟨_, rfl, rfl⟩, by decide, by decide +kernel, by decide +kernel, by decide +kernel⟩
theorem sv_L_40 : SV RL 40 12 yX12_empty cX12_empty 2 (some .boolean) 1 := ⟨TB7 119 rfl rfl, TB7 120 rfl rfl, TB7 121 rfl rfl, TB1 12 rfl rfl, TB7 122 rfl rfl, ⟨_, rfl, rfl⟩, by decide, by decide +kernel, by decide +kernel, by decide +kernel⟩
theorem sv_L_41 : SV RL 41 11 yX11_copy cX11_copy 4 (some .boolean) 2 := ⟨TB3 184 rfl rfl, TB3 185 rfl rfl, TB3 186 rfl rfl, TB1 1 rfl rfl, TB3 187 rfl rfl, ⟨_, rfl, rfl⟩, by decide, by decide +kernel, by decide +kernel, by decide +kernel⟩
theorem sv_L_44 : SV RL 44 12 yX12_copy cX12_copy 3 (some .boolean) 2 := ⟨TB7 123 rfl rfl, TB7 124 rfl rfl, TB7 125 rfl rfl, TB1 12 rfl rfl, TB7 126 rfl rfl, ⟨_, rfl, rfl⟩, by decide, by decide +kernel, by decide +kernel, by decide +kernel⟩
theorem sv_L_45 : SV RL 45 11 yX11_unit cX11_unit 5 (some .boolean) 4 := ⟨TB3 236 rfl rfl, TB3 237 rfl rfl, TB3 238 rfl rfl, TB1 1 rfl rfl, TB3 239 rfl rfl, ⟨_, rfl, rfl⟩, by decide, by decide +kernel, by decide +kernel, by decide +kernel⟩
theorem sv_L_49 : SV RL 49 12 yX12_unit cX12_unit 5 (some .boolean) 4 := ⟨TB7 131 rfl rfl, TB7 132 rfl rfl, TB7 133 rfl rfl, TB1 12 rfl rfl, TB7 134 rfl rfl, ⟨_, rfl, rfl⟩, by decide, by decide +kernel, by decide +kernel, by decide +kernel⟩
theorem sv_L_50 : SV RL 50 11 yX11_keep cX11_keep 3 (some .boolean) 2 := ⟨TB4 12 rfl rfl, TB4 13 rfl rfl, TB4 14 rfl rfl, TB1 1 rfl rfl, TB4 15 rfl rfl, ⟨_, rfl, rfl⟩, by decide, by decide +kernel, by decide +kernel, by decide +kernel⟩
theorem sv_L_54 : SV RL 54 12 yX12_keep cX12_keep 3 (some .boolean) 2 := ⟨TB7 135 rfl rfl, TB7 136 rfl rfl, TB7 137 rfl rfl, TB1 12 rfl rfl, TB7 138 rfl rfl, ⟨_, rfl, rfl⟩, by decide, by decide +kernel, by decide +kernel, by decide +kernel⟩
theorem sv_L_55 : SV RL 55 11 yX11_check cX11_check 1 (some .int) 0 := ⟨TB4 20 rfl rfl, TB4 21 rfl rfl, TB4 22 rfl rfl, TB1 1 rfl rfl, TB4 23 rfl rfl, ⟨_, rfl, rfl⟩, by decide, by decide +kernel, by decide +kernel, by decide +kernel⟩
theorem sv_L_59 : SV RL 59 12 yX12_check cX12_check 3 (some .int) 0 := ⟨TB7 139 rfl rfl, TB7 140 rfl rfl, TB7 141 rfl rfl, TB1 12 rfl rfl, TB7 142 rfl rfl, ⟨_, rfl, rfl⟩, by decide, by decide +kernel, by decide +kernel, by decide +kernel⟩
theorem sv_L_60 : SV RL 60 11 yX11_finding cX11_finding 3 (some .int) 2 := ⟨TB5 19 rfl rfl, TB5 20 rfl rfl, TB5 21 rfl rfl, TB1 1 rfl rfl, TB5 22 rfl rfl, ⟨_, rfl, rfl⟩, by decide, by decide +kernel, by decide +kernel, by decide +kernel⟩
theorem sv_L_63 : SV RL 63 12 yX12_finding cX12_finding 3 (some .int) 2 := ⟨TB7 171 rfl rfl, TB7 172 rfl rfl, TB7 173 rfl rfl, TB1 12 rfl rfl, TB7 174 rfl rfl, ⟨_, rfl, rfl⟩, by decide, by decide +kernel, by decide +kernel, by decide +kernel⟩
theorem sv_L_64 : SV RL 64 11 yX11_mend cX11_mend 4 (some .int) 1 := ⟨TB5 27 rfl rfl, TB5 28 rfl rfl, TB5 29 rfl rfl, TB1 1 rfl rfl, TB5 30 rfl rfl, ⟨_, rfl, rfl⟩, by decide, by decide +kernel, by decide +kernel, by decide +kernel⟩
theorem sv_L_67 : SV RL 67 12 yX12_mend cX12_mend 3 (some .int) 1 := ⟨TB7 175 rfl rfl, TB7 176 rfl rfl, TB7 177 rfl rfl, TB1 12 rfl rfl, TB7 178 rfl rfl, ⟨_, rfl, rfl⟩, by decide, by decide +kernel, by decide +kernel, by decide +kernel⟩
theorem sv_L_68 : SV RL 68 11 yX11_stretch cX11_stretch 4 (some .int) 2 := ⟨TB5 97 rfl rfl, TB5 98 rfl rfl, TB5 99 rfl rfl, TB1 1 rfl rfl, TB5 100 rfl rfl, ⟨_, rfl, rfl⟩, by decide, by decide +kernel, by decide +kernel, by decide +kernel⟩
theorem sv_L_71 : SV RL 71 12 yX12_stretch cX12_stretch 5 (some .int) 2 := ⟨TB7 187 rfl rfl, TB7 188 rfl rfl, TB7 189 rfl rfl, TB1 12 rfl rfl, TB7 190 rfl rfl, ⟨_, rfl, rfl⟩, by decide, by decide +kernel, by decide +kernel, by decide +kernel⟩
theorem sv_L_72 : SV RL 72 11 yX11_changed cX11_changed 3 (some .int) 2 := ⟨TB5 118 rfl rfl, TB5 119 rfl rfl, TB5 120 rfl rfl, TB1 1 rfl rfl, TB5 121 rfl rfl, ⟨_, rfl, rfl⟩, by decide, by decide +kernel, by decide +kernel, by decide +kernel⟩
theorem sv_L_75 : SV RL 75 12 yX12_changed cX12_changed 3 (some .int) 2 := ⟨TB7 195 rfl rfl, TB7 196 rfl rfl, TB7 197 rfl rfl, TB1 12 rfl rfl, TB7 198 rfl rfl, ⟨_, rfl, rfl⟩, by decide, by decide +kernel, by decide +kernel, by decide +kernel⟩
theorem sv_L_76 : SV RL 76 11 yX11_undo cX11_undo 1 (some .int) 0 := ⟨TB5 126 rfl rfl, TB5 127 rfl rfl, TB5 128 rfl rfl, TB1 1 rfl rfl, TB5 129 rfl rfl, ⟨_, rfl, rfl⟩, by decide, by decide +kernel, by decide +kernel, by decide +kernel⟩
theorem sv_L_79 : SV RL 79 12 yX12_undo cX12_undo 1 (some .int) 0 := ⟨TB7 199 rfl rfl, TB7 200 rfl rfl, TB7 201 rfl rfl, TB1 12 rfl rfl, TB7 202 rfl rfl, ⟨_, rfl, rfl⟩, by decide, by decide +kernel, by decide +kernel, by decide +kernel⟩
theorem sv_L_85 : SV RL 85 12 yX12_cell cX12_cell 3 (some .int) 2 := ⟨TB7 203 rfl rfl, TB7 204 rfl rfl, TB7 205 rfl rfl, TB1 12 rfl rfl, TB7 206 rfl rfl, ⟨_, rfl, rfl⟩, by decide, by decide +kernel, by decide +kernel, by decide +kernel⟩
theorem sv_L_86 : SV RL 86 12 yX12_thrown cX12_thrown 1 (some .int) 0 := ⟨TB6 11 rfl rfl, TB6 12 rfl rfl, TB6 13 rfl rfl, TB1 12 rfl rfl, TB6 14 rfl rfl, ⟨_, rfl, rfl⟩, by decide, by decide +kernel, by decide +kernel, by decide +kernel⟩
theorem sv_L_89 : SV RL 89 11 yX11_ways cX11_ways 3 (some .int) 2 := ⟨TB5 134 rfl rfl, TB5 135 rfl rfl, TB5 136 rfl rfl, TB1 1 rfl rfl, TB5 137 rfl rfl, ⟨_, rfl, rfl⟩, by decide, by decide +kernel, by decide +kernel, by decide +kernel⟩
theorem sv_L_92 : SV RL 92 12 yX12_ways cX12_ways 4 (some .int) 2 := ⟨TB7 211 rfl rfl, TB7 212 rfl rfl, TB7 213 rfl rfl, TB1 12 rfl rfl, TB7 214 rfl rfl, ⟨_, rfl, rfl⟩, by decide, by decide +kernel, by decide +kernel, by decide +kernel⟩
theorem sv_L_93 : SV RL 93 11 yX11_count cX11_count 2 (some .int) 1 := ⟨TB5 152 rfl rfl, TB5 153 rfl rfl, TB5 154 rfl rfl, TB1 1 rfl rfl, TB5 155 rfl rfl, ⟨_, rfl, rfl⟩, by decide, by decide +kernel, by decide +kernel, by decide +kernel⟩
theorem sv_L_96 : SV RL 96 12 yX12_count cX12_count 7 (some .int) 1 := ⟨TB7 215 rfl rfl, TB7 216 rfl rfl, TB7 217 rfl rfl, TB1 12 rfl rfl, TB7 218 rfl rfl, ⟨_, rfl, rfl⟩, by decide, by decide +kernel, by decide +kernel, by decide +kernel⟩
theorem sv_X12_7 : SV RX12 7 12 yX12_lay cX12_lay 5 none 1 := ⟨TB6 19 rfl rfl, TB6 21 rfl rfl, TBp4 7 rfl, TB1 12 rfl rfl, TB6 23 rfl rfl, ⟨_, rfl, rfl⟩, by decide, by decide +kernel, by decide +kernel, by decide +kernel⟩
theorem ss_X12_24 : SS RX12 24 yX12_isLetter cX12_isLetter 1 (some .boolean) 1 := ⟨TB6 172 rfl rfl, TB6 173 rfl rfl, TB1 12 rfl rfl, TB6 174 rfl rfl, by decide +kernel, by decide +kernel, by decide +kernel⟩
theorem ss_X12_35 : SS RX12 35 yX12_isDigit cX12_isDigit 1 (some .boolean) 1 := ⟨TB6 177 rfl rfl, TB6 178 rfl rfl, TB1 12 rfl rfl, TB6 179 rfl rfl, by decide +kernel, by decide +kernel, by decide +kernel⟩
theorem ss_X12_42 : SS RX12 42 yX12_isSignOf cX12_isSignOf 1 (some .boolean) 1 := ⟨TB6 182 rfl rfl, TB6 183 rfl rfl, TB1 12 rfl rfl, TB6 184 rfl rfl, by decide +kernel, by decide +kernel, by decide +kernel⟩
theorem sv_X12_55 : SV RX12 55 12 yX12_isSign cX12_isSign 2 (some .boolean) 1 := ⟨TB6 215 rfl rfl, TB6 217 rfl rfl, TBp5 0 rfl, TB1 12 rfl rfl, TB6 218 rfl rfl, ⟨_, rfl, rfl⟩, by decide, by decide +kernel, by decide +kernel, by decide +kernel⟩
theorem ol_X12_58 : Cond.methodLink RX12 58 Lib.objectInit ∈ TBg := TB6 28 rfl rfl
theorem sv_X12_143 : SV RX12 143 12 yX12_add cX12_add 6 none 4 := ⟨TB6 223 rfl rfl, TB6 225 rfl rfl, TBp5 2 rfl, TB1 12 rfl rfl, TB6 226 rfl rfl, ⟨_, rfl, rfl⟩, by decide, by decide +kernel, by decide +kernel, by decide +kernel⟩
theorem sv_X12_147 : SV RX12 147 12 yX12_wrong cX12_wrong 2 none 1 := ⟨TB6 219 rfl rfl, TB6 221 rfl rfl, TBp5 1 rfl, TB1 12 rfl rfl, TB6 222 rfl rfl, ⟨_, rfl, rfl⟩, by decide, by decide +kernel, by decide +kernel, by decide +kernel⟩
theorem sv_X12_155 : SV RX12 155 12 yX12_readProduct cX12_readProduct 1 none 0 := ⟨TB6 193 rfl rfl, TB6 195 rfl rfl, TBp4 11 rfl, TB1 12 rfl rfl, TB6 196 rfl rfl, ⟨_, rfl, rfl⟩, by decide, by decide +kernel, by decide +kernel, by decide +kernel⟩
theorem sv_X12_158 : SV RX12 158 12 yX12_takeSign cX12_takeSign 2 none 1 := ⟨TB6 228 rfl rfl, TB6 230 rfl rfl, TBp5 3 rfl, TB1 12 rfl rfl, TB6 231 rfl rfl, ⟨_, rfl, rfl⟩, by decide, by decide +kernel, by decide +kernel, by decide +kernel⟩
theorem sv_X12_161 : SV RX12 161 12 yX12_readPart cX12_readPart 2 none 0 := ⟨TB6 197 rfl rfl, TB6 199 rfl rfl, TBp4 12 rfl, TB1 12 rfl rfl, TB6 200 rfl rfl, ⟨_, rfl, rfl⟩, by decide, by decide +kernel, by decide +kernel, by decide +kernel⟩
theorem sv_X12_164 : SV RX12 164 12 yX12_isColumn cX12_isColumn 1 (some .boolean) 0 := ⟨TB6 205 rfl rfl, TB6 207 rfl rfl, TBp4 14 rfl, TB1 12 rfl rfl, TB6 208 rfl rfl, ⟨_, rfl, rfl⟩, by decide, by decide +kernel, by decide +kernel, by decide +kernel⟩
theorem sv_X12_168 : SV RX12 168 12 yX12_isSum cX12_isSum 1 (some .boolean) 0 := ⟨TB6 210 rfl rfl, TB6 212 rfl rfl, TBp4 15 rfl, TB1 12 rfl rfl, TB6 213 rfl rfl, ⟨_, rfl, rfl⟩, by decide, by decide +kernel, by decide +kernel, by decide +kernel⟩
theorem sv_X12_171 : SV RX12 171 12 yX12_isPart cX12_isPart 1 (some .boolean) 0 := ⟨TB6 201 rfl rfl, TB6 203 rfl rfl, TBp4 13 rfl, TB1 12 rfl rfl, TB6 204 rfl rfl, ⟨_, rfl, rfl⟩, by decide, by decide +kernel, by decide +kernel, by decide +kernel⟩
theorem sv_X12_177 : SV RX12 177 12 yX12_readRef cX12_readRef 4 none 1 := ⟨TB6 232 rfl rfl, TB6 234 rfl rfl, TBp5 4 rfl, TB1 12 rfl rfl, TB6 235 rfl rfl, ⟨_, rfl, rfl⟩, by decide, by decide +kernel, by decide +kernel, by decide +kernel⟩
theorem sv_X12_180 : SV RX12 180 12 yX12_readE cX12_readE 1 none 0 := ⟨TB6 189 rfl rfl, TB6 191 rfl rfl, TBp4 10 rfl, TB1 12 rfl rfl, TB6 192 rfl rfl, ⟨_, rfl, rfl⟩, by decide, by decide +kernel, by decide +kernel, by decide +kernel⟩
theorem sv_X12_183 : SV RX12 183 12 yX12_hasSign cX12_hasSign 3 (some .boolean) 1 := ⟨TB6 236 rfl rfl, TB6 238 rfl rfl, TBp5 5 rfl, TB1 12 rfl rfl, TB6 239 rfl rfl, ⟨_, rfl, rfl⟩, by decide, by decide +kernel, by decide +kernel, by decide +kernel⟩
theorem sv_X12_191 : SV RX12 191 12 yX12_copyRow cX12_copyRow 4 none 2 := ⟨TB7 5 rfl rfl, TB7 7 rfl rfl, TBp5 7 rfl, TB1 12 rfl rfl, TB7 8 rfl rfl, ⟨_, rfl, rfl⟩, by decide, by decide +kernel, by decide +kernel, by decide +kernel⟩
theorem sv_X12_195 : SV RX12 195 12 yX12_works cX12_works 3 none 0 := ⟨TB7 9 rfl rfl, TB7 11 rfl rfl, TBp5 8 rfl, TB1 12 rfl rfl, TB7 12 rfl rfl, ⟨_, rfl, rfl⟩, by decide, by decide +kernel, by decide +kernel, by decide +kernel⟩
theorem ss_X12_198 : SS RX12 198 yX12_isPlace cX12_isPlace 1 (some .boolean) 1 := ⟨TB6 165 rfl rfl, TB6 166 rfl rfl, TB1 12 rfl rfl, TB6 167 rfl rfl, by decide +kernel, by decide +kernel, by decide +kernel⟩
theorem sv_X12_201 : SV RX12 201 12 yX12_cutAll cX12_cutAll 7 none 0 := ⟨TB6 168 rfl rfl, TB6 170 rfl rfl, TBp4 8 rfl, TB1 12 rfl rfl, TB6 171 rfl rfl, ⟨_, rfl, rfl⟩, by decide, by decide +kernel, by decide +kernel, by decide +kernel⟩
theorem sv_X12_204 : SV RX12 204 12 yX12_clearDraft cX12_clearDraft 4 none 2 := ⟨TB6 185 rfl rfl, TB6 187 rfl rfl, TBp4 9 rfl, TB1 12 rfl rfl, TB6 188 rfl rfl, ⟨_, rfl, rfl⟩, by decide, by decide +kernel, by decide +kernel, by decide +kernel⟩
theorem sv_X12_207 : SV RX12 207 12 yX12_puts cX12_puts 3 none 1 := ⟨TB7 1 rfl rfl, TB7 3 rfl rfl, TBp5 6 rfl, TB1 12 rfl rfl, TB7 4 rfl rfl, ⟨_, rfl, rfl⟩, by decide, by decide +kernel, by decide +kernel, by decide +kernel⟩
theorem sv_X12_210 : SV RX12 210 12 yX12_makesCopy cX12_makesCopy 8 (some .boolean) 2 := ⟨TB7 127 rfl rfl, TB7 129 rfl rfl, TBp7 1 rfl, TB1 12 rfl rfl, TB7 130 rfl rfl, ⟨_, rfl, rfl⟩, by decide, by decide +kernel, by decide +kernel, by decide +kernel⟩
theorem sv_X12_214 : SV RX12 214 12 yX12_spanLast cX12_spanLast 5 (some .int) 2 := ⟨TB7 17 rfl rfl, TB7 19 rfl rfl, TBp5 10 rfl, TB1 12 rfl rfl, TB7 20 rfl rfl, ⟨_, rfl, rfl⟩, by decide, by decide +kernel, by decide +kernel, by decide +kernel⟩
theorem ss_X12_218 : SS RX12 218 yX12_sets cX12_sets 3 none 3 := ⟨TB7 21 rfl rfl, TB7 22 rfl rfl, TB1 12 rfl rfl, TB7 23 rfl rfl, by decide +kernel, by decide +kernel, by decide +kernel⟩
theorem ss_X12_222 : SS RX12 222 yX12_has cX12_has 3 (some .boolean) 3 := ⟨TB7 24 rfl rfl, TB7 25 rfl rfl, TB1 12 rfl rfl, TB7 26 rfl rfl, by decide +kernel, by decide +kernel, by decide +kernel⟩
theorem sv_X12_226 : SV RX12 226 12 yX12_findReads cX12_findReads 7 none 0 := ⟨TB7 13 rfl rfl, TB7 15 rfl rfl, TBp5 9 rfl, TB1 12 rfl rfl, TB7 16 rfl rfl, ⟨_, rfl, rfl⟩, by decide, by decide +kernel, by decide +kernel, by decide +kernel⟩
theorem sv_X12_229 : SV RX12 229 12 yX12_isRing cX12_isRing 2 (some .boolean) 1 := ⟨TB7 27 rfl rfl, TB7 29 rfl rfl, TBp5 11 rfl, TB1 12 rfl rfl, TB7 30 rfl rfl, ⟨_, rfl, rfl⟩, by decide, by decide +kernel, by decide +kernel, by decide +kernel⟩
theorem sv_X12_232 : SV RX12 232 12 yX12_isReady cX12_isReady 4 (some .boolean) 1 := ⟨TB7 31 rfl rfl, TB7 33 rfl rfl, TBp5 12 rfl, TB1 12 rfl rfl, TB7 34 rfl rfl, ⟨_, rfl, rfl⟩, by decide, by decide +kernel, by decide +kernel, by decide +kernel⟩
theorem sv_X12_235 : SV RX12 235 12 yX12_work cX12_work 4 none 1 := ⟨TB7 35 rfl rfl, TB7 37 rfl rfl, TBp5 13 rfl, TB1 12 rfl rfl, TB7 38 rfl rfl, ⟨_, rfl, rfl⟩, by decide, by decide +kernel, by decide +kernel, by decide +kernel⟩
theorem sv_X12_238 : SV RX12 238 12 yX12_findFamilies cX12_findFamilies 3 none 0 := ⟨TB7 107 rfl rfl, TB7 109 rfl rfl, TBp6 15 rfl, TB1 12 rfl rfl, TB7 110 rfl rfl, ⟨_, rfl, rfl⟩, by decide, by decide +kernel, by decide +kernel, by decide +kernel⟩
theorem sv_X12_250 : SV RX12 250 12 yX12_goE cX12_goE 4 (some .int) 0 := ⟨TB7 39 rfl rfl, TB7 41 rfl rfl, TBp5 14 rfl, TB1 12 rfl rfl, TB7 42 rfl rfl, ⟨_, rfl, rfl⟩, by decide, by decide +kernel, by decide +kernel, by decide +kernel⟩
theorem sv_X12_261 : SV RX12 261 12 yX12_unitE cX12_unitE 2 none 0 := ⟨TB7 63 rfl rfl, TB7 65 rfl rfl, TBp6 4 rfl, TB1 12 rfl rfl, TB7 66 rfl rfl, ⟨_, rfl, rfl⟩, by decide, by decide +kernel, by decide +kernel, by decide +kernel⟩
theorem sv_X12_264 : SV RX12 264 12 yX12_looksTotal cX12_looksTotal 5 (some .boolean) 1 := ⟨TB7 91 rfl rfl, TB7 93 rfl rfl, TBp6 11 rfl, TB1 12 rfl rfl, TB7 94 rfl rfl, ⟨_, rfl, rfl⟩, by decide, by decide +kernel, by decide +kernel, by decide +kernel⟩
theorem sv_X12_267 : SV RX12 267 12 yX12_countWays cX12_countWays 8 none 1 := ⟨TB7 95 rfl rfl, TB7 97 rfl rfl, TBp6 12 rfl, TB1 12 rfl rfl, TB7 98 rfl rfl, ⟨_, rfl, rfl⟩, by decide, by decide +kernel, by decide +kernel, by decide +kernel⟩
theorem sv_X12_270 : SV RX12 270 12 yX12_goProduct cX12_goProduct 4 (some .int) 0 := ⟨TB7 43 rfl rfl, TB7 45 rfl rfl, TBp5 15 rfl, TB1 12 rfl rfl, TB7 46 rfl rfl, ⟨_, rfl, rfl⟩, by decide, by decide +kernel, by decide +kernel, by decide +kernel⟩
theorem sv_X12_273 : SV RX12 273 12 yX12_isNext cX12_isNext 2 (some .boolean) 1 := ⟨TB7 59 rfl rfl, TB7 61 rfl rfl, TBp6 3 rfl, TB1 12 rfl rfl, TB7 62 rfl rfl, ⟨_, rfl, rfl⟩, by decide, by decide +kernel, by decide +kernel, by decide +kernel⟩
theorem sv_X12_276 : SV RX12 276 12 yX12_goPart cX12_goPart 3 (some .int) 0 := ⟨TB7 47 rfl rfl, TB7 49 rfl rfl, TBp6 0 rfl, TB1 12 rfl rfl, TB7 50 rfl rfl, ⟨_, rfl, rfl⟩, by decide, by decide +kernel, by decide +kernel, by decide +kernel⟩
theorem sv_X12_279 : SV RX12 279 12 yX12_meets cX12_meets 2 (some .int) 1 := ⟨TB7 51 rfl rfl, TB7 53 rfl rfl, TBp6 1 rfl, TB1 12 rfl rfl, TB7 54 rfl rfl, ⟨_, rfl, rfl⟩, by decide, by decide +kernel, by decide +kernel, by decide +kernel⟩
theorem sv_X12_283 : SV RX12 283 12 yX12_sumOf cX12_sumOf 6 (some .int) 2 := ⟨TB7 55 rfl rfl, TB7 57 rfl rfl, TBp6 2 rfl, TB1 12 rfl rfl, TB7 58 rfl rfl, ⟨_, rfl, rfl⟩, by decide, by decide +kernel, by decide +kernel, by decide +kernel⟩
theorem sv_X12_286 : SV RX12 286 12 yX12_pushUnit cX12_pushUnit 4 none 3 := ⟨TB7 75 rfl rfl, TB7 77 rfl rfl, TBp6 7 rfl, TB1 12 rfl rfl, TB7 78 rfl rfl, ⟨_, rfl, rfl⟩, by decide, by decide +kernel, by decide +kernel, by decide +kernel⟩
theorem sv_X12_290 : SV RX12 290 12 yX12_unitProduct cX12_unitProduct 3 none 0 := ⟨TB7 67 rfl rfl, TB7 69 rfl rfl, TBp6 5 rfl, TB1 12 rfl rfl, TB7 70 rfl rfl, ⟨_, rfl, rfl⟩, by decide, by decide +kernel, by decide +kernel, by decide +kernel⟩
theorem sv_X12_293 : SV RX12 293 12 yX12_unitPart cX12_unitPart 2 none 0 := ⟨TB7 71 rfl rfl, TB7 73 rfl rfl, TBp6 6 rfl, TB1 12 rfl rfl, TB7 74 rfl rfl, ⟨_, rfl, rfl⟩, by decide, by decide +kernel, by decide +kernel, by decide +kernel⟩
theorem sv_X12_296 : SV RX12 296 12 yX12_pushUnitOf cX12_pushUnitOf 2 none 1 := ⟨TB7 79 rfl rfl, TB7 81 rfl rfl, TBp6 8 rfl, TB1 12 rfl rfl, TB7 82 rfl rfl, ⟨_, rfl, rfl⟩, by decide, by decide +kernel, by decide +kernel, by decide +kernel⟩
theorem sv_X12_299 : SV RX12 299 12 yX12_unitSum cX12_unitSum 7 none 2 := ⟨TB7 83 rfl rfl, TB7 85 rfl rfl, TBp6 9 rfl, TB1 12 rfl rfl, TB7 86 rfl rfl, ⟨_, rfl, rfl⟩, by decide, by decide +kernel, by decide +kernel, by decide +kernel⟩
theorem sv_X12_302 : SV RX12 302 12 yX12_isUnitSame cX12_isUnitSame 3 (some .boolean) 2 := ⟨TB7 87 rfl rfl, TB7 89 rfl rfl, TBp6 10 rfl, TB1 12 rfl rfl, TB7 90 rfl rfl, ⟨_, rfl, rfl⟩, by decide, by decide +kernel, by decide +kernel, by decide +kernel⟩
theorem sv_X12_305 : SV RX12 305 12 yX12_addWays cX12_addWays 4 none 2 := ⟨TB7 99 rfl rfl, TB7 101 rfl rfl, TBp6 13 rfl, TB1 12 rfl rfl, TB7 102 rfl rfl, ⟨_, rfl, rfl⟩, by decide, by decide +kernel, by decide +kernel, by decide +kernel⟩
theorem sv_X12_308 : SV RX12 308 12 yX12_addWay cX12_addWay 5 none 3 := ⟨TB7 103 rfl rfl, TB7 105 rfl rfl, TBp6 14 rfl, TB1 12 rfl rfl, TB7 106 rfl rfl, ⟨_, rfl, rfl⟩, by decide, by decide +kernel, by decide +kernel, by decide +kernel⟩
theorem sv_X12_311 : SV RX12 311 12 yX12_isAlike cX12_isAlike 9 (some .boolean) 2 := ⟨TB7 111 rfl rfl, TB7 113 rfl rfl, TBp7 0 rfl, TB1 12 rfl rfl, TB7 114 rfl rfl, ⟨_, rfl, rfl⟩, by decide, by decide +kernel, by decide +kernel, by decide +kernel⟩
theorem sv_X12_317 : SV RX12 317 12 yX12_familyAt cX12_familyAt 3 (some .int) 2 := ⟨TB7 147 rfl rfl, TB7 149 rfl rfl, TBp7 3 rfl, TB1 12 rfl rfl, TB7 150 rfl rfl, ⟨_, rfl, rfl⟩, by decide, by decide +kernel, by decide +kernel, by decide +kernel⟩
theorem sv_X12_320 : SV RX12 320 12 yX12_shortBy cX12_shortBy 9 (some .int) 3 := ⟨TB7 159 rfl rfl, TB7 161 rfl rfl, TBp7 6 rfl, TB1 12 rfl rfl, TB7 162 rfl rfl, ⟨_, rfl, rfl⟩, by decide, by decide +kernel, by decide +kernel, by decide +kernel⟩
theorem sv_X12_324 : SV RX12 324 12 yX12_finds cX12_finds 4 none 3 := ⟨TB7 151 rfl rfl, TB7 153 rfl rfl, TBp7 4 rfl, TB1 12 rfl rfl, TB7 154 rfl rfl, ⟨_, rfl, rfl⟩, by decide, by decide +kernel, by decide +kernel, by decide +kernel⟩
theorem sv_X12_327 : SV RX12 327 12 yX12_oddBy cX12_oddBy 6 (some .int) 1 := ⟨TB7 143 rfl rfl, TB7 145 rfl rfl, TBp7 2 rfl, TB1 12 rfl rfl, TB7 146 rfl rfl, ⟨_, rfl, rfl⟩, by decide, by decide +kernel, by decide +kernel, by decide +kernel⟩
theorem sv_X12_330 : SV RX12 330 12 yX12_findShort cX12_findShort 6 none 1 := ⟨TB7 155 rfl rfl, TB7 157 rfl rfl, TBp7 5 rfl, TB1 12 rfl rfl, TB7 158 rfl rfl, ⟨_, rfl, rfl⟩, by decide, by decide +kernel, by decide +kernel, by decide +kernel⟩
theorem sv_X12_333 : SV RX12 333 12 yX12_leastTwice cX12_leastTwice 3 (some .int) 1 := ⟨TB7 163 rfl rfl, TB7 165 rfl rfl, TBp7 7 rfl, TB1 12 rfl rfl, TB7 166 rfl rfl, ⟨_, rfl, rfl⟩, by decide, by decide +kernel, by decide +kernel, by decide +kernel⟩
theorem sv_X12_336 : SV RX12 336 12 yX12_readers cX12_readers 4 (some .int) 1 := ⟨TB7 167 rfl rfl, TB7 169 rfl rfl, TBp7 8 rfl, TB1 12 rfl rfl, TB7 170 rfl rfl, ⟨_, rfl, rfl⟩, by decide, by decide +kernel, by decide +kernel, by decide +kernel⟩
theorem sv_X12_342 : SV RX12 342 12 yX12_remembers cX12_remembers 2 none 0 := ⟨TB7 179 rfl rfl, TB7 181 rfl rfl, TBp7 9 rfl, TB1 12 rfl rfl, TB7 182 rfl rfl, ⟨_, rfl, rfl⟩, by decide, by decide +kernel, by decide +kernel, by decide +kernel⟩
theorem sv_X12_345 : SV RX12 345 12 yX12_tells cX12_tells 2 (some .int) 0 := ⟨TB7 183 rfl rfl, TB7 185 rfl rfl, TBp7 10 rfl, TB1 12 rfl rfl, TB7 186 rfl rfl, ⟨_, rfl, rfl⟩, by decide, by decide +kernel, by decide +kernel, by decide +kernel⟩
theorem sv_X12_348 : SV RX12 348 12 yX12_sumAt cX12_sumAt 5 (some .int) 2 := ⟨TB7 191 rfl rfl, TB7 193 rfl rfl, TBp7 11 rfl, TB1 12 rfl rfl, TB7 194 rfl rfl, ⟨_, rfl, rfl⟩, by decide, by decide +kernel, by decide +kernel, by decide +kernel⟩
theorem sv_X12_351 : SV RX12 351 12 yX12_readMany cX12_readMany 4 (some .int) 1 := ⟨TB7 207 rfl rfl, TB7 209 rfl rfl, TBp7 12 rfl, TB1 12 rfl rfl, TB7 210 rfl rfl, ⟨_, rfl, rfl⟩, by decide, by decide +kernel, by decide +kernel, by decide +kernel⟩
theorem sn_X2_46 : SN RX2 46 yX11_onSheet RX11 cX11_onSheet 1 (some .boolean) 1 := ⟨by decide +kernel, TB2 171 rfl rfl, TB1 1 rfl rfl, TB2 172 rfl rfl, by decide +kernel, by decide +kernel, by decide +kernel⟩
theorem sn_X5_75 : SN RX5 75 yX11_onSheet RX11 cX11_onSheet 1 (some .boolean) 1 := ⟨by decide +kernel, TB2 171 rfl rfl, TB1 1 rfl rfl, TB2 172 rfl rfl, by decide +kernel, by decide +kernel, by decide +kernel⟩
theorem sn_X5_85 : SN RX5 85 yX11_hasBit RX11 cX11_hasBit 3 (some .boolean) 3 := ⟨by decide +kernel, TB4 92 rfl rfl, TB1 1 rfl rfl, TB4 93 rfl rfl, by decide +kernel, by decide +kernel, by decide +kernel⟩
theorem sn_X5_93 : SN RX5 93 yX11_setBit RX11 cX11_setBit 3 none 3 := ⟨by decide +kernel, TB4 58 rfl rfl, TB1 1 rfl rfl, TB4 59 rfl rfl, by decide +kernel, by decide +kernel, by decide +kernel⟩
theorem sn_X6_42 : SN RX6 42 yX11_onSheet RX11 cX11_onSheet 1 (some .boolean) 1 := ⟨by decide +kernel, TB2 171 rfl rfl, TB1 1 rfl rfl, TB2 172 rfl rfl, by decide +kernel, by decide +kernel, by decide +kernel⟩
theorem sn_X8_63 : SN RX8 63 yX11_onSheet RX11 cX11_onSheet 1 (some .boolean) 1 := ⟨by decide +kernel, TB2 171 rfl rfl, TB1 1 rfl rfl, TB2 172 rfl rfl, by decide +kernel, by decide +kernel, by decide +kernel⟩
theorem sn_X8_118 : SN RX8 118 yX11_hasBit RX11 cX11_hasBit 3 (some .boolean) 3 := ⟨by decide +kernel, TB4 92 rfl rfl, TB1 1 rfl rfl, TB4 93 rfl rfl, by decide +kernel, by decide +kernel, by decide +kernel⟩
theorem sn_X8_122 : SN RX8 122 yX11_setBit RX11 cX11_setBit 3 none 3 := ⟨by decide +kernel, TB4 58 rfl rfl, TB1 1 rfl rfl, TB4 59 rfl rfl, by decide +kernel, by decide +kernel, by decide +kernel⟩
theorem sn_X9_72 : SN RX9 72 yX11_onSheet RX11 cX11_onSheet 1 (some .boolean) 1 := ⟨by decide +kernel, TB2 171 rfl rfl, TB1 1 rfl rfl, TB2 172 rfl rfl, by decide +kernel, by decide +kernel, by decide +kernel⟩
theorem sn_X10_65 : SN RX10 65 yX11_onSheet RX11 cX11_onSheet 1 (some .boolean) 1 := ⟨by decide +kernel, TB2 171 rfl rfl, TB1 1 rfl rfl, TB2 172 rfl rfl, by decide +kernel, by decide +kernel, by decide +kernel⟩
theorem cl_X11_9 : Cond.classLink RX11 9 RX7 ∈ TBg := TB1 35 rfl rfl
theorem cl_X11_16 : Cond.classLink RX11 16 RX6 ∈ TBg := TB1 85 rfl rfl
theorem cl_X11_23 : Cond.classLink RX11 23 RX5 ∈ TBg := TB1 154 rfl rfl
theorem cl_X11_32 : Cond.classLink RX11 32 RX10 ∈ TBg := TB1 198 rfl rfl
theorem cl_X11_41 : Cond.classLink RX11 41 RX2 ∈ TBg := TB1 232 rfl rfl
theorem cl_X11_48 : Cond.classLink RX11 48 RX9 ∈ TBg := TB2 15 rfl rfl
theorem cl_X11_55 : Cond.classLink RX11 55 RX8 ∈ TBg := TB2 49 rfl rfl
theorem cl_X11_62 : Cond.classLink RX11 62 RX3 ∈ TBg := TB2 80 rfl rfl
theorem cl_X11_71 : Cond.classLink RX11 71 RX1 ∈ TBg := TB2 108 rfl rfl
theorem cl_X11_99 : Cond.classLink RX11 99 RX0 ∈ TBg := TB3 157 rfl rfl
theorem cl_X0_10 : Cond.classLink RX0 10 RX0 ∈ TBg := TB3 234 rfl rfl
theorem cl_X4_1 : Cond.classLink RX4 1 RX4 ∈ TBg := TB5 115 rfl rfl
theorem cl_X6_9 : Cond.classLink RX6 9 RX0 ∈ TBg := TB1 91 rfl rfl
theorem cl_X7_64 : Cond.classLink RX7 64 RX4 ∈ TBg := TB3 126 rfl rfl
theorem cl_L_8 : Cond.classLink RL 8 RX11 ∈ TBg := TB1 27 rfl rfl
theorem cl_L_16 : Cond.classLink RL 16 RX12 ∈ TBg := TB6 24 rfl rfl
theorem it_0 : Cond.instantiable RX0 6 ∈ TBg := TB1 92 rfl rfl
theorem id_0 : Cond.initialized RX0 ∈ TBg := TB1 4 rfl rfl
theorem it_1 : Cond.instantiable RX1 5 ∈ TBg := TB2 109 rfl rfl
theorem id_1 : Cond.initialized RX1 ∈ TBg := TB1 11 rfl rfl
theorem it_2 : Cond.instantiable RX2 5 ∈ TBg := TB1 233 rfl rfl
theorem id_2 : Cond.initialized RX2 ∈ TBg := TB1 7 rfl rfl
theorem it_3 : Cond.instantiable RX3 7 ∈ TBg := TB2 81 rfl rfl
theorem id_3 : Cond.initialized RX3 ∈ TBg := TB1 10 rfl rfl
theorem it_4 : Cond.instantiable RX4 3 ∈ TBg := TB3 127 rfl rfl
theorem id_4 : Cond.initialized RX4 ∈ TBg := TB1 19 rfl rfl
theorem it_5 : Cond.instantiable RX5 12 ∈ TBg := TB1 155 rfl rfl
theorem id_5 : Cond.initialized RX5 ∈ TBg := TB1 5 rfl rfl
theorem it_6 : Cond.instantiable RX6 7 ∈ TBg := TB1 86 rfl rfl
theorem id_6 : Cond.initialized RX6 ∈ TBg := TB1 3 rfl rfl
theorem it_7 : Cond.instantiable RX7 13 ∈ TBg := TB1 36 rfl rfl
theorem id_7 : Cond.initialized RX7 ∈ TBg := TB1 2 rfl rfl
theorem it_8 : Cond.instantiable RX8 8 ∈ TBg := TB2 50 rfl rfl
theorem id_8 : Cond.initialized RX8 ∈ TBg := TB1 9 rfl rfl
theorem it_9 : Cond.instantiable RX9 9 ∈ TBg := TB2 16 rfl rfl
theorem id_9 : Cond.initialized RX9 ∈ TBg := TB1 8 rfl rfl
theorem it_10 : Cond.instantiable RX10 9 ∈ TBg := TB1 199 rfl rfl
theorem id_10 : Cond.initialized RX10 ∈ TBg := TB1 6 rfl rfl
theorem it_11 : Cond.instantiable RX11 9 ∈ TBg := TB1 28 rfl rfl
theorem id_11 : Cond.initialized RX11 ∈ TBg := TB1 1 rfl rfl
theorem it_12 : Cond.instantiable RX12 43 ∈ TBg := TB6 22 rfl rfl
theorem id_12 : Cond.initialized RX12 ∈ TBg := TB1 12 rfl rfl
theorem ac_int : Cond.arrayClass .int ∈ TBg := TB1 84 rfl rfl
theorem ac_char : Cond.arrayClass .char ∈ TBg := TB1 83 rfl rfl
theorem ac_boolean : Cond.arrayClass .boolean ∈ TBg := TB1 153 rfl rfl
theorem ac_long : Cond.arrayClass .long ∈ TBg := TB1 197 rfl rfl
theorem kc_X12_64 : Cond.constant RX12 64 37080 ∈ TBg := TB6 29 rfl rfl
theorem kc_X12_120 : Cond.constant RX12 120 82944 ∈ TBg := TB6 30 rfl rfl
theorem kc_X12_142 : Cond.constant RX12 142 34560 ∈ TBg := TB6 227 rfl rfl
theorem kl_L_19 : Cond.constantLong RL 19 4294967295 ∈ TBg := TB7 219 rfl rfl
theorem kl_X12_28 : Cond.constantLong RX12 28 27 ∈ TBg := TB6 175 rfl rfl
theorem kl_X12_30 : Cond.constantLong RX12 30 96 ∈ TBg := TB6 176 rfl rfl
theorem kl_X12_38 : Cond.constantLong RX12 38 10 ∈ TBg := TB6 180 rfl rfl
theorem kl_X12_40 : Cond.constantLong RX12 40 48 ∈ TBg := TB6 181 rfl rfl
theorem kl_X12_151 : Cond.constantLong RX12 151 14431 ∈ TBg := TB6 214 rfl rfl
theorem kl_X12_153 : Cond.constantLong RX12 153 12 ∈ TBg := TB6 209 rfl rfl
theorem kl_X12_186 : Cond.constantLong RX12 186 24 ∈ TBg := TB7 0 rfl rfl
theorem kl_J13_314 : Cond.constantLong RJ13 314 6148914691236517205 ∈ TBg := TB4 80 rfl rfl
theorem kl_J13_316 : Cond.constantLong RJ13 316 3689348814741910323 ∈ TBg := TB4 81 rfl rfl
theorem kl_J13_318 : Cond.constantLong RJ13 318 1085102592571150095 ∈ TBg := TB4 82 rfl rfl
end
section
section ROWS
variable {p : Program} {l : Launch} {e : Env} {R : Room} {s : State} {m : MethodId} {args : Array Value} {below : List Frame} {meth : Method} {c : Code} {H : Heap} {locs : List Loc} {cells slots : Nat} {Q : State → Prop}
variable {cc : ByteArray} {pc : Nat} {ls : Array Slot} {rest : List Value} {B : Nat} {D : va_G} {cA : Nat → ClassId} {kd : sK} {ig : sI} {rg : sR} {lg : sG} {own : String} {nL : Nat}
theorem WD.ge (hw : WD B D cA s.heap kd ig rg lg H locs) {a k n : Nat} (ha : kd a = some (k, n)) : B ≤ a := hw.2.1 a (by rw [ha]; simp)
theorem WD.lt (hw : WD B D cA s.heap kd ig rg lg H locs) {a k n : Nat} (ha : kd a = some (k, n)) : a < H.size := (hw.1 a k n ha).lt
theorem WD.size (hw : WD B D cA s.heap kd ig rg lg H locs) : B ≤ H.size := Nat.le_trans hw.2.2.2 hw.2.2.1.1
theorem WD.fresh (hw : WD B D cA s.heap kd ig rg lg H locs) : kd H.size = none := by
  cases h : kd H.size with
  | none => rfl
  | some q => exact absurd (hw.lt (k := q.1) (n := q.2) h) (Nat.lt_irrefl _)
/-- getfield -/
theorem r_get (C : Cx p m c cc nL s args own D cA) (hw : WD B D cA s.heap kd ig rg lg H locs) {a k n j index : Nat} {fin : Bool} {ty : FieldType} (ha : kd a = some (k, n)) (fl : FL own index k j fin ty) {v : Value} (hv : oV k ig rg a j = v) (hdg : decode cc pc = .ok (.getfield index, 3))
    (kk : W p l e R s m args below meth c H locs cells slots Q (F0 m (pc + 3) ls (v :: rest))) : W p l e R s m args below meth c H locs cells slots Q (F0 m pc ls (.ref a :: rest)) := by
  obtain ⟨Cn, T, N, t0, h1, h2, h3, h4, h5, h6, h7, h8, h9, h10, h11⟩ := fl
  have hob := hw.1 a k n ha
  unfold PWat at hob
  rw [if_pos h3] at hob
  obtain ⟨cell, q1, q2, q3, q4⟩ := hob
  obtain ⟨⟨hx, hb, hml, hown, hts⟩, hK⟩ := C
  obtain ⟨hS, hfc, kC, hkC, hkind⟩ := hK.1.1 k _ h1
  obtain ⟨cf, kf, fi, f, hi, hsl⟩ := hS j h2
  refine W.getf hx hb hown (hts _ h6) hi (u_facts hfc hkC (u_lays hts h5 h2) hi).1 q1 (by rw [q3]; exact fun h => by cases h) (v := v) ?_ rfl rfl hdg kk
  rw [hsl, q4 j (by rw [h4]; exact h2), hv]
/-- putfield of a number -/
theorem r_puti (C : Cx p m c cc nL s args own D cA) (hw : WD B D cA s.heap kd ig rg lg H locs) {a k n j index : Nat} {ty : FieldType} {x : Int32} (ha : kd a = some (k, n)) (fl : FL own index k j false ty) (hj : isRf k j = false) (hn : narrow ty (.int x) = .int x) (hf : fits ty (.int x) = true) (hdg : decode cc pc = .ok (.putfield index, 3))
    (kk : ∀ (H1 : Heap) (locs1 : List Loc), H1.size = H.size → WD B D cA s.heap kd (up2 ig a j x) rg lg H1 locs1 → W p l e R s m args below meth c H1 locs1 cells slots Q (F0 m (pc + 3) ls rest)) : W p l e R s m args below meth c H locs cells slots Q (F0 m pc ls (.int x :: .ref a :: rest)) := by
  obtain ⟨Cn, T, N, t0, h1, h2, h3, h4, h5, h6, h7, h8, h9, h10, h11⟩ := fl
  have hob := hw.1 a k n ha
  unfold PWat at hob
  rw [if_pos h3] at hob
  obtain ⟨cell, q1, q2, q3, q4⟩ := hob
  obtain ⟨⟨hx, hb, hml, hown, hts⟩, hK⟩ := C
  have hap := va_apart (own := own) hts h5 t0 h8 h9 hK.1 h1
  obtain ⟨hS, hfc, kC, hkC, hkind⟩ := hK.1.1 k _ h1
  obtain ⟨cf, kf, fi, f, hi, hsl⟩ := hS j h2
  have hlay := hts _ (h5 _ (u_in_lay h2))
  unfold u_lay at hlay
  rw [if_neg (by rw [h10]; decide)] at hlay
  have h12 := u_store hfc hkC hkind hlay hi (h8 j h2) (by rw [h11]; exact hn) (by rw [h11]; exact hf)
  rw [h4] at q4
  refine W.putK hx hb (f := f) ⟨hown, hts _ h6, ⟨_, _, _, hi⟩, (u_facts hfc hkC (u_lays hts h5 h2) hi).1⟩ (by rw [q2]; exact h12) q1 q3 (by rw [hsl]; exact k2_hasslot (q4 j h2)) rfl rfl hdg fun H' e1 e2 e3 => ?_
  rw [hsl] at e1 ⊢
  refine kk H' _ e2 ⟨hw.1.put ha ?_ e3 (fun b i hb' => up2_a hb') (fun _ _ _ => rfl) (fun _ _ _ => rfl), hw.2.1, hw.2.2.1.put e2 e3 (hw.ge ha), hw.2.2.2⟩
  unfold PWat
  rw [if_pos h3, h4]
  refine t_OB.to (V := updV (oV k ig rg a) j (.int x)) ⟨_, e1, q2, q3, t_set q4 hap h2 _⟩ (fun i _ => ?_)
  by_cases hij : i = j
  · subst hij
    simp [updV, oV, hj, up2]
  · simp [updV, oV, hij, up2]
/-- putfield of a reference -/
theorem r_putr (C : Cx p m c cc nL s args own D cA) (hw : WD B D cA s.heap kd ig rg lg H locs) {a k n j index : Nat} {ty : FieldType} {v : Value} (r : Option Nat) (hv : va_rf r = v) (ha : kd a = some (k, n)) (fl : FL own index k j false ty) (hj : isRf k j = true) (hn : narrow ty v = v) (hf : fits ty v = true) (hdg : decode cc pc = .ok (.putfield index, 3))
    (kk : ∀ (H1 : Heap) (locs1 : List Loc), H1.size = H.size → WD B D cA s.heap kd ig (up2 rg a j r) lg H1 locs1 → W p l e R s m args below meth c H1 locs1 cells slots Q (F0 m (pc + 3) ls rest)) : W p l e R s m args below meth c H locs cells slots Q (F0 m pc ls (v :: .ref a :: rest)) := by
  subst hv
  obtain ⟨Cn, T, N, t0, h1, h2, h3, h4, h5, h6, h7, h8, h9, h10, h11⟩ := fl
  have hob := hw.1 a k n ha
  unfold PWat at hob
  rw [if_pos h3] at hob
  obtain ⟨cell, q1, q2, q3, q4⟩ := hob
  obtain ⟨⟨hx, hb, hml, hown, hts⟩, hK⟩ := C
  have hap := va_apart (own := own) hts h5 t0 h8 h9 hK.1 h1
  obtain ⟨hS, hfc, kC, hkC, hkind⟩ := hK.1.1 k _ h1
  obtain ⟨cf, kf, fi, f, hi, hsl⟩ := hS j h2
  have hlay := hts _ (h5 _ (u_in_lay h2))
  unfold u_lay at hlay
  rw [if_neg (by rw [h10]; decide)] at hlay
  have h12 := u_store hfc hkC hkind hlay hi (h8 j h2) (by rw [h11]; exact hn) (by rw [h11]; exact hf)
  rw [h4] at q4
  refine W.putK hx hb (f := f) ⟨hown, hts _ h6, ⟨_, _, _, hi⟩, (u_facts hfc hkC (u_lays hts h5 h2) hi).1⟩ (by rw [q2]; exact h12) q1 q3 (by rw [hsl]; exact k2_hasslot (q4 j h2)) rfl rfl hdg fun H' e1 e2 e3 => ?_
  rw [hsl] at e1 ⊢
  refine kk H' _ e2 ⟨hw.1.put ha ?_ e3 (fun _ _ _ => rfl) (fun b i hb' => up2_a hb') (fun _ _ _ => rfl), hw.2.1, hw.2.2.1.put e2 e3 (hw.ge ha), hw.2.2.2⟩
  unfold PWat
  rw [if_pos h3, h4]
  refine t_OB.to (V := updV (oV k ig rg a) j (va_rf r)) ⟨_, e1, q2, q3, t_set q4 hap h2 _⟩ (fun i _ => ?_)
  by_cases hij : i = j
  · subst hij
    simp [updV, oV, hj, up2]
  · simp [updV, oV, hij, up2]
/-- .. of final fields in the constructor -/
theorem r_putiF (C : Cx p m c cc nL s args own D cA) (hw : WD B D cA s.heap kd ig rg lg H locs) {a k n j index : Nat} {ty : FieldType} {x : Int32} (hin2 : meth.name = "<init>") (hC : (vwCl[k]?).map (fun q => q.1) = some own) (ha : kd a = some (k, n)) (fl : FL own index k j true ty) (hj : isRf k j = false) (hn : narrow ty (.int x) = .int x) (hf : fits ty (.int x) = true) (hdg : decode cc pc = .ok (.putfield index, 3))
    (kk : ∀ (H1 : Heap) (locs1 : List Loc), H1.size = H.size → WD B D cA s.heap kd (up2 ig a j x) rg lg H1 locs1 → W p l e R s m args below meth c H1 locs1 cells slots Q (F0 m (pc + 3) ls rest)) : W p l e R s m args below meth c H locs cells slots Q (F0 m pc ls (.int x :: .ref a :: rest)) := by
  obtain ⟨Cn, T, N, t0, h1, h2, h3, h4, h5, h6, h7, h8, h9, h10, h11⟩ := fl
  have hob := hw.1 a k n ha
  unfold PWat at hob
  rw [if_pos h3] at hob
  obtain ⟨cell, q1, q2, q3, q4⟩ := hob
  rw [h1] at hC
  have hCn : Cn = own := Option.some.inj hC
  obtain ⟨⟨hx, hb, hml, hown, hts⟩, hK⟩ := C
  have hap := va_apart (own := own) hts h5 t0 h8 h9 hK.1 h1
  obtain ⟨hS, hfc, kC, hkC, hkind⟩ := hK.1.1 k _ h1
  obtain ⟨cf, kf, fi, f, hi, hsl⟩ := hS j h2
  have hlay := hts _ (h5 _ (u_in_lay h2))
  unfold u_lay at hlay
  rw [if_pos h10] at hlay
  have hcf : m.cls = cf := by
    obtain ⟨_, _, c', _, _, _, -, -, hf', -, -, -, hown2, -⟩ := Cond.laysFinal_spec hlay
    have e1 : c' = cf := by have := hi.symm.trans hf'; simp at this; exact this.1.symm
    rw [h7, hCn] at hown2
    rw [← e1]; exact Option.some.inj (hown.symm.trans hown2)
  have h12 := u_fits hfc hkC hkind (Or.inr hlay) hi (h8 j h2) (by rw [h11]; exact hn) (by rw [h11]; exact hf)
  rw [h4] at q4
  refine W.putFinK hx hb hown (hts _ h6) hi (u_facts hfc hkC (u_lays hts h5 h2) hi).1 hcf hin2 (by rw [q2]; exact h12) q1 q3 (by rw [hsl]; exact k2_hasslot (q4 j h2)) rfl rfl hdg fun H' e1 e2 e3 => ?_
  rw [hsl] at e1 ⊢
  refine kk H' _ e2 ⟨hw.1.put ha ?_ e3 (fun b i hb' => up2_a hb') (fun _ _ _ => rfl) (fun _ _ _ => rfl), hw.2.1, hw.2.2.1.put e2 e3 (hw.ge ha), hw.2.2.2⟩
  unfold PWat
  rw [if_pos h3, h4]
  refine t_OB.to (V := updV (oV k ig rg a) j (.int x)) ⟨_, e1, q2, q3, t_set q4 hap h2 _⟩ (fun i _ => ?_)
  by_cases hij : i = j
  · subst hij
    simp [updV, oV, hj, up2]
  · simp [updV, oV, hij, up2]
theorem r_putrF (C : Cx p m c cc nL s args own D cA) (hw : WD B D cA s.heap kd ig rg lg H locs) {a k n j index : Nat} {ty : FieldType} {v : Value} (r : Option Nat) (hv : va_rf r = v) (hin2 : meth.name = "<init>") (hC : (vwCl[k]?).map (fun q => q.1) = some own) (ha : kd a = some (k, n)) (fl : FL own index k j true ty) (hj : isRf k j = true) (hn : narrow ty v = v) (hf : fits ty v = true) (hdg : decode cc pc = .ok (.putfield index, 3))
    (kk : ∀ (H1 : Heap) (locs1 : List Loc), H1.size = H.size → WD B D cA s.heap kd ig (up2 rg a j r) lg H1 locs1 → W p l e R s m args below meth c H1 locs1 cells slots Q (F0 m (pc + 3) ls rest)) : W p l e R s m args below meth c H locs cells slots Q (F0 m pc ls (v :: .ref a :: rest)) := by
  subst hv
  obtain ⟨Cn, T, N, t0, h1, h2, h3, h4, h5, h6, h7, h8, h9, h10, h11⟩ := fl
  have hob := hw.1 a k n ha
  unfold PWat at hob
  rw [if_pos h3] at hob
  obtain ⟨cell, q1, q2, q3, q4⟩ := hob
  rw [h1] at hC
  have hCn : Cn = own := Option.some.inj hC
  obtain ⟨⟨hx, hb, hml, hown, hts⟩, hK⟩ := C
  have hap := va_apart (own := own) hts h5 t0 h8 h9 hK.1 h1
  obtain ⟨hS, hfc, kC, hkC, hkind⟩ := hK.1.1 k _ h1
  obtain ⟨cf, kf, fi, f, hi, hsl⟩ := hS j h2
  have hlay := hts _ (h5 _ (u_in_lay h2))
  unfold u_lay at hlay
  rw [if_pos h10] at hlay
  have hcf : m.cls = cf := by
    obtain ⟨_, _, c', _, _, _, -, -, hf', -, -, -, hown2, -⟩ := Cond.laysFinal_spec hlay
    have e1 : c' = cf := by have := hi.symm.trans hf'; simp at this; exact this.1.symm
    rw [h7, hCn] at hown2
    rw [← e1]; exact Option.some.inj (hown.symm.trans hown2)
  have h12 := u_fits hfc hkC hkind (Or.inr hlay) hi (h8 j h2) (by rw [h11]; exact hn) (by rw [h11]; exact hf)
  rw [h4] at q4
  refine W.putFinK hx hb hown (hts _ h6) hi (u_facts hfc hkC (u_lays hts h5 h2) hi).1 hcf hin2 (by rw [q2]; exact h12) q1 q3 (by rw [hsl]; exact k2_hasslot (q4 j h2)) rfl rfl hdg fun H' e1 e2 e3 => ?_
  rw [hsl] at e1 ⊢
  refine kk H' _ e2 ⟨hw.1.put ha ?_ e3 (fun _ _ _ => rfl) (fun b i hb' => up2_a hb') (fun _ _ _ => rfl), hw.2.1, hw.2.2.1.put e2 e3 (hw.ge ha), hw.2.2.2⟩
  unfold PWat
  rw [if_pos h3, h4]
  refine t_OB.to (V := updV (oV k ig rg a) j (va_rf r)) ⟨_, e1, q2, q3, t_set q4 hap h2 _⟩ (fun i _ => ?_)
  by_cases hij : i = j
  · subst hij
    simp [updV, oV, hj, up2]
  · simp [updV, oV, hij, up2]
theorem in_of {i : Int32} {n : Nat} (h0 : 0 ≤ i.toInt) (h1 : i.toInt < (n : Int)) : vp_in i n := vp_in_iff.mpr ⟨h0, h1⟩
theorem PW.arr (h : PW D cA kd ig rg lg H) {a k n : Nat} (ha : kd a = some (k, n)) (hk : ¬ k < 13) : H[a]? = some (arrV (cA k) n (aV k ig rg lg a)) := by
  have h1 := h a k n ha
  unfold PWat at h1
  rwa [if_neg hk] at h1
theorem r_alen (C : Cx p m c cc nL s args own D cA) (hw : WD B D cA s.heap kd ig rg lg H locs) {a k n : Nat} (ha : kd a = some (k, n)) (hk : k = 20 ∨ k = 21 ∨ k = 22 ∨ k = 23 ∨ k = 24) (hn : n < 2147483648) (hdg : decode cc pc = .ok (.arraylength, 1))
    (kk : ∀ z : Int32, z.toInt = (n : Int) → W p l e R s m args below meth c H locs cells slots Q (F0 m (pc + 1) ls (.int z :: rest))) : W p l e R s m args below meth c H locs cells slots Q (F0 m pc ls (.ref a :: rest)) := by
  obtain ⟨⟨hx, hb, hml, hown, hts⟩, hK⟩ := C
  have hc := hw.1.arr ha (by omega)
  have hT : ∃ ty, ArrOfT s (cA k) ty := by
    rcases hk with e | e | e | e | e <;> subst e
    · exact ⟨_, (hK.1.2 0 _ rfl).1⟩
    · exact ⟨_, (hK.1.2 1 _ rfl).1⟩
    · exact ⟨_, (hK.1.2 2 _ rfl).1⟩
    · exact ⟨_, (hK.1.2 3 _ rfl).1⟩
    · exact ⟨_, (hK.1.2 4 _ rfl).1⟩
  obtain ⟨ty, hT⟩ := hT
  refine W.alen (n := nI n) hx hb hc (hT n _) (by rw [arrV_size]; rfl) rfl rfl hdg (kk _ (nI_toInt hn))
theorem r_iald (C : Cx p m c cc nL s args own D cA) (hw : WD B D cA s.heap kd ig rg lg H locs) {a n : Nat} {i : Int32} (ha : kd a = some (20, n)) (h0 : 0 ≤ i.toInt) (h1 : i.toInt < (n : Int)) (hdg : decode cc pc = .ok (.iaload, 1))
    (kk : W p l e R s m args below meth c H locs cells slots Q (F0 m (pc + 1) ls (.int (ig a i.toInt.toNat) :: rest))) : W p l e R s m args below meth c H locs cells slots Q (F0 m pc ls (.int i :: .ref a :: rest)) := by
  obtain ⟨⟨hx, hb, hml, hown, hts⟩, hK⟩ := C
  have hin := in_of h0 h1
  have hlt : i.toNatClampNeg < n := Nat.not_le.mp fun q => hin (Or.inr q)
  exact W.iald (v := .int (ig a i.toInt.toNat)) hx hb (hw.1.arr ha (by decide)) ((hK.1.2 0 _ rfl).1 n _) (fun q => by cases q) (by rw [arrV_size]; exact hin) (by rw [arrV_read _ _ hlt]; rfl) rfl rfl hdg kk
theorem r_cald (C : Cx p m c cc nL s args own D cA) (hw : WD B D cA s.heap kd ig rg lg H locs) {a n : Nat} {i : Int32} (ha : kd a = some (21, n)) (h0 : 0 ≤ i.toInt) (h1 : i.toInt < (n : Int)) (hdg : decode cc pc = .ok (.caload, 1))
    (kk : W p l e R s m args below meth c H locs cells slots Q (F0 m (pc + 1) ls (.int (ig a i.toInt.toNat) :: rest))) : W p l e R s m args below meth c H locs cells slots Q (F0 m pc ls (.int i :: .ref a :: rest)) := by
  obtain ⟨⟨hx, hb, hml, hown, hts⟩, hK⟩ := C
  have hin := in_of h0 h1
  have hlt : i.toNatClampNeg < n := Nat.not_le.mp fun q => hin (Or.inr q)
  exact W.cald (v := .int (ig a i.toInt.toNat)) hx hb (hw.1.arr ha (by decide)) ((hK.1.2 1 _ rfl).1 n _) (fun q => by cases q) (by rw [arrV_size]; exact hin) (by rw [arrV_read _ _ hlt]; rfl) rfl rfl hdg kk
theorem r_zald (C : Cx p m c cc nL s args own D cA) (hw : WD B D cA s.heap kd ig rg lg H locs) {a n : Nat} {i : Int32} (ha : kd a = some (22, n)) (h0 : 0 ≤ i.toInt) (h1 : i.toInt < (n : Int)) (hdg : decode cc pc = .ok (.baload, 1))
    (kk : W p l e R s m args below meth c H locs cells slots Q (F0 m (pc + 1) ls (.int (ig a i.toInt.toNat) :: rest))) : W p l e R s m args below meth c H locs cells slots Q (F0 m pc ls (.int i :: .ref a :: rest)) := by
  obtain ⟨⟨hx, hb, hml, hown, hts⟩, hK⟩ := C
  have hin := in_of h0 h1
  have hlt : i.toNatClampNeg < n := Nat.not_le.mp fun q => hin (Or.inr q)
  exact W.zald (v := .int (ig a i.toInt.toNat)) hx hb (hw.1.arr ha (by decide)) ((hK.1.2 2 _ rfl).1 n _) (fun q => by cases q) (by rw [arrV_size]; exact hin) (by rw [arrV_read _ _ hlt]; rfl) rfl rfl hdg kk
theorem r_lald (C : Cx p m c cc nL s args own D cA) (hw : WD B D cA s.heap kd ig rg lg H locs) {a n : Nat} {i : Int32} (ha : kd a = some (23, n)) (h0 : 0 ≤ i.toInt) (h1 : i.toInt < (n : Int)) (hdg : decode cc pc = .ok (.laload, 1))
    (kk : W p l e R s m args below meth c H locs cells slots Q (F0 m (pc + 1) ls (.long (lg a i.toInt.toNat) :: rest))) : W p l e R s m args below meth c H locs cells slots Q (F0 m pc ls (.int i :: .ref a :: rest)) := by
  obtain ⟨⟨hx, hb, hml, hown, hts⟩, hK⟩ := C
  have hin := in_of h0 h1
  have hlt : i.toNatClampNeg < n := Nat.not_le.mp fun q => hin (Or.inr q)
  exact W.lald (v := .long (lg a i.toInt.toNat)) hx hb (hw.1.arr ha (by decide)) ((hK.1.2 3 _ rfl).1 n _) (fun q => by cases q) (by rw [arrV_size]; exact hin) (by rw [arrV_read _ _ hlt]; rfl) rfl rfl hdg kk
theorem r_aald (C : Cx p m c cc nL s args own D cA) (hw : WD B D cA s.heap kd ig rg lg H locs) {a n : Nat} {i : Int32} (ha : kd a = some (24, n)) (h0 : 0 ≤ i.toInt) (h1 : i.toInt < (n : Int)) {v : Value} (hv : va_rf (rg a i.toInt.toNat) = v) (hdg : decode cc pc = .ok (.aaload, 1))
    (kk : W p l e R s m args below meth c H locs cells slots Q (F0 m (pc + 1) ls (v :: rest))) : W p l e R s m args below meth c H locs cells slots Q (F0 m pc ls (.int i :: .ref a :: rest)) := by
  obtain ⟨⟨hx, hb, hml, hown, hts⟩, hK⟩ := C
  have hin := in_of h0 h1
  have hlt : i.toNatClampNeg < n := Nat.not_le.mp fun q => hin (Or.inr q)
  exact W.aald (v := v) (ty := .object "SheetDoctor$Cell") hx hb (hw.1.arr ha (by decide)) ((hK.1.2 4 _ rfl).1 n _) rfl (fun q => by cases q) (by rw [arrV_size]; exact hin) (by rw [arrV_read _ _ hlt, ← hv]; rfl) rfl rfl hdg kk
end ROWS
end
section
section ROWS2
variable {p : Program} {l : Launch} {e : Env} {R : Room} {s : State} {m : MethodId} {args : Array Value} {below : List Frame} {meth : Method} {c : Code} {H : Heap} {locs : List Loc} {cells slots : Nat} {Q : State → Prop}
variable {cc : ByteArray} {pc : Nat} {ls : Array Slot} {rest : List Value} {B : Nat} {D : va_G} {cA : Nat → ClassId} {kd : sK} {ig : sI} {rg : sR} {lg : sG} {own : String} {nL : Nat}
theorem PWat_arr {a k n : Nat} (hk : ¬ k < 13) (h : H[a]? = some (arrV (cA k) n (aV k ig rg lg a))) : PWat D cA ig rg lg a k n H := by
  unfold PWat
  rwa [if_neg hk]
theorem aV_up {k a j : Nat} {x : Int32} (hk : k ≠ 23 ∧ k ≠ 24) : updV (aV k ig rg lg a) j (.int x) = aV k (up2 ig a j x) rg lg a := by
  funext i
  by_cases hij : i = j
  · subst hij
    simp [updV, aV, hk, up2]
  · simp [updV, aV, hk, hij, up2]
theorem r_iast (C : Cx p m c cc nL s args own D cA) (hw : WD B D cA s.heap kd ig rg lg H locs) {a n : Nat} {i x : Int32} (ha : kd a = some (20, n)) (h0 : 0 ≤ i.toInt) (h1 : i.toInt < (n : Int)) (hdg : decode cc pc = .ok (.iastore, 1))
    (kk : ∀ (H1 : Heap) (locs1 : List Loc), H1.size = H.size → WD B D cA s.heap kd (up2 ig a i.toInt.toNat x) rg lg H1 locs1 → W p l e R s m args below meth c H1 locs1 cells slots Q (F0 m (pc + 1) ls rest)) : W p l e R s m args below meth c H locs cells slots Q (F0 m pc ls (.int x :: .int i :: .ref a :: rest)) := by
  obtain ⟨⟨hx, hb, hml, hown, hts⟩, hK⟩ := C
  have hin := in_of h0 h1
  refine W.iast hx hb (hw.1.arr ha (by decide)) ((hK.1.2 0 _ rfl).1 n _) (fun q => by cases q) (by rw [arrV_size]; exact hin) rfl rfl hdg fun H1 e1 e2 e3 => ?_
  rw [arrV_store] at e1
  refine kk H1 _ e2 ⟨hw.1.put ha (PWat_arr (by decide) (e1.trans (by rw [← aV_up (by decide)]; rfl))) e3 (fun b i hb' => up2_a hb') (fun _ _ _ => rfl) (fun _ _ _ => rfl), hw.2.1, hw.2.2.1.put e2 e3 (hw.ge ha), hw.2.2.2⟩
theorem r_cast (C : Cx p m c cc nL s args own D cA) (hw : WD B D cA s.heap kd ig rg lg H locs) {a n : Nat} {i x : Int32} (ha : kd a = some (21, n)) (h0 : 0 ≤ i.toInt) (h1 : i.toInt < (n : Int)) (hn : narrow .char (.int x) = .int x) (hdg : decode cc pc = .ok (.castore, 1))
    (kk : ∀ (H1 : Heap) (locs1 : List Loc), H1.size = H.size → WD B D cA s.heap kd (up2 ig a i.toInt.toNat x) rg lg H1 locs1 → W p l e R s m args below meth c H1 locs1 cells slots Q (F0 m (pc + 1) ls rest)) : W p l e R s m args below meth c H locs cells slots Q (F0 m pc ls (.int x :: .int i :: .ref a :: rest)) := by
  obtain ⟨⟨hx, hb, hml, hown, hts⟩, hK⟩ := C
  have hin := in_of h0 h1
  refine W.cast hx hb (hw.1.arr ha (by decide)) ((hK.1.2 1 _ rfl).1 n _) (fun q => by cases q) (by rw [arrV_size]; exact hin) rfl rfl hdg fun H1 e1 e2 e3 => ?_
  rw [arrV_store, hn] at e1
  refine kk H1 _ e2 ⟨hw.1.put ha (PWat_arr (by decide) (e1.trans (by rw [← aV_up (by decide)]; rfl))) e3 (fun b i hb' => up2_a hb') (fun _ _ _ => rfl) (fun _ _ _ => rfl), hw.2.1, hw.2.2.1.put e2 e3 (hw.ge ha), hw.2.2.2⟩
theorem r_zast (C : Cx p m c cc nL s args own D cA) (hw : WD B D cA s.heap kd ig rg lg H locs) {a n : Nat} {i x : Int32} (ha : kd a = some (22, n)) (h0 : 0 ≤ i.toInt) (h1 : i.toInt < (n : Int)) (hn : narrow .boolean (.int x) = .int x) (hdg : decode cc pc = .ok (.bastore, 1))
    (kk : ∀ (H1 : Heap) (locs1 : List Loc), H1.size = H.size → WD B D cA s.heap kd (up2 ig a i.toInt.toNat x) rg lg H1 locs1 → W p l e R s m args below meth c H1 locs1 cells slots Q (F0 m (pc + 1) ls rest)) : W p l e R s m args below meth c H locs cells slots Q (F0 m pc ls (.int x :: .int i :: .ref a :: rest)) := by
  obtain ⟨⟨hx, hb, hml, hown, hts⟩, hK⟩ := C
  have hin := in_of h0 h1
  refine W.zast hx hb (hw.1.arr ha (by decide)) ((hK.1.2 2 _ rfl).1 n _) (fun q => by cases q) (by rw [arrV_size]; exact hin) rfl rfl hdg fun H1 e1 e2 e3 => ?_
  rw [arrV_store, hn] at e1
  refine kk H1 _ e2 ⟨hw.1.put ha (PWat_arr (by decide) (e1.trans (by rw [← aV_up (by decide)]; rfl))) e3 (fun b i hb' => up2_a hb') (fun _ _ _ => rfl) (fun _ _ _ => rfl), hw.2.1, hw.2.2.1.put e2 e3 (hw.ge ha), hw.2.2.2⟩
theorem r_last (C : Cx p m c cc nL s args own D cA) (hw : WD B D cA s.heap kd ig rg lg H locs) {a n : Nat} {i : Int32} {x : Int64} (ha : kd a = some (23, n)) (h0 : 0 ≤ i.toInt) (h1 : i.toInt < (n : Int)) (hdg : decode cc pc = .ok (.lastore, 1))
    (kk : ∀ (H1 : Heap) (locs1 : List Loc), H1.size = H.size → WD B D cA s.heap kd ig rg (up2 lg a i.toInt.toNat x) H1 locs1 → W p l e R s m args below meth c H1 locs1 cells slots Q (F0 m (pc + 1) ls rest)) : W p l e R s m args below meth c H locs cells slots Q (F0 m pc ls (.long x :: .int i :: .ref a :: rest)) := by
  obtain ⟨⟨hx, hb, hml, hown, hts⟩, hK⟩ := C
  have hin := in_of h0 h1
  refine W.last hx hb (hw.1.arr ha (by decide)) ((hK.1.2 3 _ rfl).1 n _) (fun q => by cases q) (by rw [arrV_size]; exact hin) rfl rfl hdg fun H1 e1 e2 e3 => ?_
  rw [arrV_store] at e1
  have e4 : updV (aV 23 ig rg lg a) i.toNatClampNeg (.long x) = aV 23 ig rg (up2 lg a i.toInt.toNat x) a := by
    funext q
    by_cases hq : q = i.toInt.toNat
    · subst hq
      simp [updV, aV, up2]
    · have hq2 : q ≠ i.toNatClampNeg := hq
      simp [updV, aV, up2, hq, hq2]
  rw [e4] at e1
  exact kk H1 _ e2 ⟨hw.1.put ha (PWat_arr (by decide) e1) e3 (fun _ _ _ => rfl) (fun _ _ _ => rfl) (fun b i hb' => up2_a hb'), hw.2.1, hw.2.2.1.put e2 e3 (hw.ge ha), hw.2.2.2⟩
theorem r_aast (C : Cx p m c cc nL s args own D cA) (hw : WD B D cA s.heap kd ig rg lg H locs) {a n v nv : Nat} {i : Int32} (ha : kd a = some (24, n)) (hv : kd v = some (0, nv)) (h0 : 0 ≤ i.toInt) (h1 : i.toInt < (n : Int)) (hdg : decode cc pc = .ok (.aastore, 1))
    (kk : ∀ (H1 : Heap) (locs1 : List Loc), H1.size = H.size → WD B D cA s.heap kd ig (up2 rg a i.toInt.toNat (some v)) lg H1 locs1 → W p l e R s m args below meth c H1 locs1 cells slots Q (F0 m (pc + 1) ls rest)) : W p l e R s m args below meth c H locs cells slots Q (F0 m pc ls (.ref v :: .int i :: .ref a :: rest)) := by
  obtain ⟨⟨hx, hb, hml, hown, hts⟩, hK⟩ := C
  have hin := in_of h0 h1
  have hlt : i.toNatClampNeg < n := Nat.not_le.mp fun q => hin (Or.inr q)
  have h2 : ¬ i < 0 := fun q => hin (Or.inl q)
  have hov := hw.1 v 0 nv hv
  unfold PWat at hov
  rw [if_pos (by decide)] at hov
  obtain ⟨cellV, g1, g2, g3, -⟩ := hov
  have hcls := (hK.1.1 0 _ rfl).2
  obtain ⟨kA, comp, k1, k2, k3, -⟩ := (hK.1.2 4 _ rfl).2
  have hcomp : comp = D.1 0 := Option.some.inj (k3.symm.trans hcls.1)
  subst hcomp
  obtain ⟨kC, hkC, -⟩ := hcls.2
  refine W.aast hx hb (hw.1.arr ha (by decide)) (fun q h => by cases h) (fun h => by cases h) k1 k2 rfl hkC ⟨h2, by rw [arrV_size]; exact hlt⟩ g1 (fun q h => by rw [g3] at h; cases h) (by rw [g2]; exact hkC) (by rw [g2]; exact va_assign hcls) rfl rfl hdg fun H1 e1 e2 e3 => ?_
  rw [arrV_store] at e1
  have e4 : updV (aV 24 ig rg lg a) i.toNatClampNeg (.ref v) = aV 24 ig (up2 rg a i.toInt.toNat (some v)) lg a := by
    funext q
    by_cases hq : q = i.toInt.toNat
    · subst hq
      simp [updV, aV, up2, va_rf]
    · have hq2 : q ≠ i.toNatClampNeg := hq
      simp [updV, aV, up2, hq, hq2]
  rw [e4] at e1
  exact kk H1 _ e2 ⟨hw.1.put ha (PWat_arr (by decide) e1) e3 (fun _ _ _ => rfl) (fun b i hb' => up2_a hb') (fun _ _ _ => rfl), hw.2.1, hw.2.2.1.put e2 e3 (hw.ge ha), hw.2.2.2⟩
/-- what follows a making -/
theorem WD.newS (hw : WD B D cA s.heap kd ig rg lg H locs) {H1 : Heap} (z : H1.size = H.size + 1) (o : ∀ q, q < H.size → H1[q]? = H[q]?) : va_S (fun q => B ≤ q) s.heap H1 locs :=
  ⟨Nat.le_trans hw.2.2.1.1 (by omega), fun q h1 h2 => (o q (Nat.lt_of_lt_of_le h1 hw.2.2.1.1)).trans (hw.2.2.1.2.1 q h1 h2), hw.2.2.1.2.2⟩
theorem WD.newD (hw : WD B D cA s.heap kd ig rg lg H locs) {k n : Nat} : ∀ a, upK kd H.size k n a ≠ none → B ≤ a := by
  intro a h
  by_cases e1 : a = H.size
  · rw [e1]; exact hw.size
  · rw [upK_ne e1] at h; exact hw.2.1 a h
theorem r_newa {k n : Nat} {ty : FieldType} {atype : ArrayType} (C : Cx p m c cc nL s args own D cA) (hw : WD B D cA s.heap kd ig rg lg H locs) (ht : newarray.typeOf atype = ty) (hk : (tysA cA)[k - 20]? = some (cA k, ty)) (hkk : k = 20 ∨ k = 21 ∨ k = 22) (harr : Cond.arrayClass ty ∈ TBg) {i : Int32} (hi : i.toInt = (n : Int)) (hdv : defaultValue ty = .int 0) (hbytes : n * componentBytes ty ≤ 536870912) (hcells : cells + 1 ≤ R.cells) (hslots : slots + n ≤ R.slots) (hdg : decode cc pc = .ok (.newarray atype, 2)) {h : Nat} (hh : H.size = h)
    (kk : ∀ (H1 : Heap), H1.size = h + 1 → WD B D cA s.heap (upK kd h k n) (upR ig h 0) rg lg H1 locs → W p l e R s m args below meth c H1 locs (cells + 1) (slots + n) Q (F0 m (pc + 2) ls (.ref h :: rest))) : W p l e R s m args below meth c H locs cells slots Q (F0 m pc ls (.int i :: rest)) := by
  subst ht
  subst hh
  obtain ⟨⟨hx, hb, hml, hown, hts⟩, hK⟩ := C
  refine va_newaK (N := n) hx hb (hts _ harr) rfl hdg rfl (fun q => by rw [Int32.lt_iff_toInt_lt, hi, Int32.toInt_zero] at q; omega) (by show i.toInt.toNat = n; omega) hbytes hcells hslots rfl fun H1 cB e1 z1 o1 hAr hNm => ?_
  have hRA := (hK.1.2 (k - 20) _ hk).2
  have hcB : cB = cA k := by
    have h2 : s.vm.findClass ("[" ++ (newarray.typeOf atype).toString) = some (cA k) := by
      revert hRA
      cases atype <;> exact fun h => h
    exact Option.some.inj (hNm.symm.trans h2)
  subst hcB
  refine kk H1 z1 ⟨hw.1.new (PWat_arr (by omega) ?_) o1 (fun b j hb' => upR_ne hb') (fun _ _ _ => rfl) (fun _ _ _ => rfl), hw.newD, hw.newS z1 o1, hw.2.2.2⟩
  rw [e1]
  congr 2
  funext j
  rw [hdv]
  simp [aV, upR, show k ≠ 23 by omega, show k ≠ 24 by omega]
theorem r_newl {n : Nat} (C : Cx p m c cc nL s args own D cA) (hw : WD B D cA s.heap kd ig rg lg H locs) (harr : Cond.arrayClass .long ∈ TBg) {i : Int32} (hi : i.toInt = (n : Int)) (hbytes : n * componentBytes .long ≤ 536870912) (hcells : cells + 1 ≤ R.cells) (hslots : slots + n ≤ R.slots) (hdg : decode cc pc = .ok (.newarray .long, 2)) {h : Nat} (hh : H.size = h)
    (kk : ∀ (H1 : Heap), H1.size = h + 1 → WD B D cA s.heap (upK kd h 23 n) ig rg (upR lg h 0) H1 locs → W p l e R s m args below meth c H1 locs (cells + 1) (slots + n) Q (F0 m (pc + 2) ls (.ref h :: rest))) : W p l e R s m args below meth c H locs cells slots Q (F0 m pc ls (.int i :: rest)) := by
  subst hh
  obtain ⟨⟨hx, hb, hml, hown, hts⟩, hK⟩ := C
  refine va_newaK (N := n) (atype := .long) hx hb (hts _ harr) rfl hdg rfl (fun q => by rw [Int32.lt_iff_toInt_lt, hi, Int32.toInt_zero] at q; omega) (by show i.toInt.toNat = n; omega) hbytes hcells hslots rfl fun H1 cB e1 z1 o1 hAr hNm => ?_
  have hRA : s.vm.findClass ("[" ++ FieldType.long.toString) = some (cA 23) := (hK.1.2 3 _ rfl).2
  have hcB : cB = cA 23 := Option.some.inj (hNm.symm.trans hRA)
  subst hcB
  refine kk H1 z1 ⟨hw.1.new (PWat_arr (by omega) ?_) o1 (fun _ _ _ => rfl) (fun _ _ _ => rfl) (fun b j hb' => upR_ne hb'), hw.newD, hw.newS z1 o1, hw.2.2.2⟩
  rw [e1]
  congr 2
  funext j
  simp [aV, upR]
  rfl
theorem r_anew {n : Nat} {index : Nat} (C : Cx p m c cc nL s args own D cA) (hw : WD B D cA s.heap kd ig rg lg H locs) (hcl : Cond.classLink own index RX0 ∈ TBg) {i : Int32} (hi : i.toInt = (n : Int)) (hbytes : n * 4 ≤ 536870912) (hcells : cells + 1 ≤ R.cells) (hslots : slots + n ≤ R.slots) (hdg : decode cc pc = .ok (.anewarray index, 3)) {h : Nat} (hh : H.size = h)
    (kk : ∀ (H1 : Heap), H1.size = h + 1 → WD B D cA s.heap (upK kd h 24 n) ig (upR rg h none) lg H1 locs → W p l e R s m args below meth c H1 locs (cells + 1) (slots + n) Q (F0 m (pc + 3) ls (.ref h :: rest))) : W p l e R s m args below meth c H locs cells slots Q (F0 m pc ls (.int i :: rest)) := by
  subst hh
  obtain ⟨⟨hx, hb, hml, hown, hts⟩, hK⟩ := C
  have hN : i.toNatClampNeg = n := by show i.toInt.toNat = n; omega
  refine W.anew hx hb hown (hts _ hcl) (va_AO.use hK.2.2) rfl hdg rfl (fun q => by rw [Int32.lt_iff_toInt_lt, hi, Int32.toInt_zero] at q; omega) (by rw [hN]; exact hbytes) hcells (by rw [hN]; exact hslots) fun cB kA comp f1 f2 f3 f4 => ?_
  rw [hN]
  obtain ⟨_, _, -, -, -, hRA⟩ := (hK.1.2 4 _ rfl).2
  have hcB : cB = cA 24 := Option.some.inj (f1.symm.trans hRA)
  subst hcB
  have o1 : ∀ q : Nat, q < H.size → (H.push ({ cls := cA 24, slots := Array.replicate n .null, vm := .none } : Cell))[q]? = H[q]? := fun q hq => by rw [Array.getElem?_push, if_neg (Nat.ne_of_lt hq)]
  refine kk _ (by rw [Array.size_push]) ⟨hw.1.new (PWat_arr (by omega) ?_) o1 (fun _ _ _ => rfl) (fun b j hb' => upR_ne hb') (fun _ _ _ => rfl), hw.newD, hw.newS (by rw [Array.size_push]) o1, hw.2.2.2⟩
  rw [Array.getElem?_push_size, show aV 24 ig (upR rg H.size none) lg H.size = fun _ => Value.null from by funext j; simp [aV, upR, va_rf], ← arrV_new]
theorem r_new {k index : Nat} {Cn : String} {T : u_T} {N : Nat} {t0 : Nat → FieldType} (C : Cx p m c cc nL s args own D cA) (hw : WD B D cA s.heap kd ig rg lg H locs) (h1 : vwCl[k]? = some (Cn, T, N)) (h3 : k < 13) (h4 : nf k = N) (h5 : ∀ w ∈ u_ws Cn T N, w ∈ TBg) (h8 : ∀ q, q < N → parseFieldDescriptor (T q).2.2.1 = some (t0 q)) (hd : ∀ j, j < N → defaultValue (t0 j) = if isRf k j = true then .null else .int 0)
    (hcl : Cond.classLink own index Cn ∈ TBg) (hins : Cond.instantiable Cn N ∈ TBg) (hini : Cond.initialized Cn ∈ TBg) (hcells : cells + 1 ≤ R.cells) (hslots : slots + N ≤ R.slots) (hdg : decode cc pc = .ok (.new index, 3)) {h : Nat} (hh : H.size = h)
    (kk : ∀ (H1 : Heap), H1.size = h + 1 → WD B D cA s.heap (upK kd h k 0) (upR ig h 0) (upR rg h none) lg H1 locs → W p l e R s m args below meth c H1 locs (cells + 1) (slots + N) Q (F0 m (pc + 3) ls (.ref h :: rest))) : W p l e R s m args below meth c H locs cells slots Q (F0 m pc ls rest) := by
  subst hh
  obtain ⟨⟨hx, hb, hml, hown, hts⟩, hK⟩ := C
  have hKn := hK.1.1 k _ h1
  refine W.newcK hx hb hown (hts _ hcl) (hts _ hins) (hts _ hini) rfl hdg hcells hslots hKn.2.1 rfl fun H1 kC hkC e1 z1 o1 => ?_
  refine kk H1 z1 ⟨hw.1.new ?_ o1 (fun b j hb' => upR_ne hb') (fun b j hb' => upR_ne hb') (fun _ _ _ => rfl), hw.newD, hw.newS z1 o1, hw.2.2.2⟩
  unfold PWat
  rw [if_pos h3, h4]
  refine (u_born t0 hts h5 hKn hkC e1 h8).to (fun j hj => ?_)
  rw [hd j hj]
  by_cases hr : isRf k j = true
  · simp [oV, hr, upR, va_rf]
  · simp [oV, hr, upR]
end ROWS2
end
section
/-! CONTRACTS over the world, calls, returns, numbers -/
abbrev aP : Type := Option Value → sK → sI → sR → sG → Nat → Prop
def PcW (B : Nat) (D : va_G) (cA : Nat → ClassId) (av : List Value) (kd : sK) (ig : sI) (rg : sR) (lg : sG) (sz : Nat) : Array Value → State → Prop := fun v U => v = av.toArray ∧ KN D cA U ∧ PW D cA kd ig rg lg U.heap ∧ (∀ a, kd a ≠ none → B ≤ a) ∧ B ≤ U.heap.size ∧ U.heap.size = sz
def QcW (B : Nat) (D : va_G) (cA : Nat → ClassId) (Post : aP) : Array Value → State → Outcome → State → Prop := fun _ st oc t => ∃ (r : Option Value) (kd : sK) (ig : sI) (rg : sR) (lg : sG), oc = .returned r ∧ PW D cA kd ig rg lg t.heap ∧ (∀ a, kd a ≠ none → B ≤ a) ∧ st.heap.size ≤ t.heap.size ∧ (∀ q : Nat, q < B → t.heap[q]? = st.heap[q]?) ∧ Post r kd ig rg lg t.heap.size
def MC (l : Launch) (B : Nat) (D : va_G) (cA : Nat → ClassId) (y : MethodName) (cc : ByteArray) (maxL : Nat) (ret : Option FieldType) (rm : Room) (av : List Value) (kd : sK) (ig : sI) (rg : sR) (lg : sG) (sz : Nat) (Post : aP) : Prop :=
  Met l y (Cond.code y cc maxL ret :: TBg) rm (PcW B D cA av kd ig rg lg sz) (QcW B D cA Post) rm.cells rm.slots (fun q => B ≤ q)
/-- nothing is changed -/
def Pu (kd : sK) (ig : sI) (rg : sR) (lg : sG) (sz : Nat) (P : Option Value → Prop) : aP := fun r kd' ig' rg' lg' n => kd = kd' ∧ ig = ig' ∧ rg = rg' ∧ lg = lg' ∧ n = sz ∧ P r
def rL (d mc ms : Nat) : Room := { frames := d, cells := mc, slots := ms, locals := 64 * d + 32 }
theorem MC.of {l : Launch} {B : Nat} {D : va_G} {cA : Nat → ClassId} {y : MethodName} {cc : ByteArray} {maxL : Nat} {ret : Option FieldType} {rm : Room} {av : List Value} {kd : sK} {ig : sI} {rg : sR} {lg : sG} {sz : Nat} {Post : aP} {own : String} (hy : plainName y.cls = true) (ho : y.cls = own) (hav : (lg_sl av).length ≤ maxL)
    (body : ∀ (p : Program) (e : Env) (s : State) (m : MethodId) (args : Array Value) (below : List Frame) (meth : Method) (c : Code) (ls : Array Slot), Cx p m c cc maxL s args own D cA → meth.sig.returnType = ret → meth.locks = false → meth.name = y.name → WD B D cA s.heap kd ig rg lg s.heap [] → s.heap.size = sz → lv_has ls maxL (lv_args 0 av) →
      W p l e rm s m args below meth c s.heap [] 0 0 (MQ below (QcW B D cA Post) args s rm.cells rm.slots (fun q => B ≤ q)) (F0 m 0 ls [])) : MC l B D cA y cc maxL ret rm av kd ig rg lg sz Post := by
  refine Met.ofW (cc := cc) (maxL := maxL) (ret := ret) hy rfl ?_
  intro p e s m args below meth c s₁ Bd hml hv
  obtain ⟨rfl, hK, hP, hdm, hBs, hsz⟩ := hv
  have hts := atoms_spec (ws := Cond.code y cc maxL ret :: TBg) Bd.pre
  have hown : s.vm.findClass own = some m.cls := ho ▸ findClass_of_methodNamed Bd.named
  have hl := lv_entry av (n := maxL) hav
  rw [lg_entry_eq]
  exact body p e s m av.toArray below meth c _ ⟨⟨Bd.exec, Bd.bytes, hml, hown, fun w h => hts w (List.mem_cons_of_mem _ h)⟩, hK⟩ Bd.returns Bd.notSynchronized (name_of_methodNamed Bd.named Bd.method).1 ⟨hP, hdm, va_S.rf, hBs⟩ hsz hl
section CALLS
variable {p : Program} {l : Launch} {e : Env} {R : Room} {s : State} {m : MethodId} {args : Array Value} {below : List Frame} {meth : Method} {c : Code} {H : Heap} {locs : List Loc} {cells slots : Nat} {Q : State → Prop}
variable {cc : ByteArray} {pc : Nat} {ls : Array Slot} {rest : List Value} {B : Nat} {D : va_G} {cA : Nat → ClassId} {kd : sK} {ig : sI} {rg : sR} {lg : sG} {own : String} {nL : Nat}
variable {y : MethodName} {cb : ByteArray} {maxL na index : Nat} {ret : Option FieldType} {rm : Room} {As st : List Value} {Post : aP}
theorem r_goes {g : JFrame} {av : List Value} (hw : WD B D cA s.heap kd ig rg lg H locs) (hr : va_Run p l e R s m args below meth c H locs cells slots rm.cells rm.slots g rest (QcW B D cA Post av.toArray) (fun q => B ≤ q))
    (kk : ∀ (r : Option Value) (kd' : sK) (ig' : sI) (rg' : sR) (lg' : sG) (H' : Heap) (locs' : List Loc), WD B D cA s.heap kd' ig' rg' lg' H' locs' → H.size ≤ H'.size → Post r kd' ig' rg' lg' H'.size → W p l e R s m args below meth c H' locs' (cells + rm.cells) (slots + rm.slots) Q { g with pc := g.pc + 3, stack := r.toList ++ rest }) : W p l e R s m args below meth c H locs cells slots Q g := by
  intro T hT X
  obtain ⟨v, st₀, t, T', L, h0, X', hL, e1, e2, ⟨r, kd', ig', rg', lg', hv, hP', hD', hz, hk, hpost⟩, st⟩ := hr T hT X
  cases hv
  rw [h0] at hz hk
  have hB := hw.size
  obtain ⟨t2, a1, b1⟩ := kk v kd' ig' rg' lg' T'.heap (locs ++ L) ⟨by rw [e1]; exact hP', hD', ⟨Nat.le_trans hw.2.2.1.1 (by rw [e1]; exact hz), fun q h1 h2 => by rw [e1, hk q (Nat.not_le.mp h2)]; exact hw.2.2.1.2.1 q h1 h2, fun q hq => (List.mem_append.mp hq).elim (hw.2.2.1.2.2 q) (hL q)⟩, hw.2.2.2⟩ (by rw [e1]; exact hz) (by rw [e1]; exact hpost) T' rfl X'
  exact ⟨t2, st t2 a1, b1⟩
theorem PcW.blind {av : List Value} {sz : Nat} : FrameBlind (PcW B D cA av kd ig rg lg sz) := fun a U g mk h => ⟨h.1, KN.same (s := U) rfl h.2.1, h.2.2.1, h.2.2.2.1, h.2.2.2.2.1, h.2.2.2.2.2⟩
theorem PcW.pre (C : Cx p m c cc nL s args own D cA) (hw : WD B D cA s.heap kd ig rg lg H locs) {av : List Value} : ∀ U : State, U.heap = H → s.WarmedH U.vm → PcW B D cA av kd ig rg lg H.size av.toArray U := fun U hU hW => ⟨rfl, KN.warm hW C.2, by rw [hU]; exact hw.1, hw.2.1, by rw [hU]; exact hw.size, by rw [hU]⟩
theorem r_callV (C : Cx p m c cc nL s args own D cA) (hw : WD B D cA s.heap kd ig rg lg H locs) {k b nb : Nat} (hM : MC l B D cA y cb maxL ret rm (.ref b :: As) kd ig rg lg H.size Post) (sv : SV own index k y cb maxL ret na) (hkb : kd b = some (k, nb)) (hn : As.length = na) (hsize : ls.size = nL) (hst : st = As.reverse ++ .ref b :: rest) (hrest : (rest.map fun v => v.category).sum ≤ 8) (hR : rm.frames + 1 ≤ R.frames ∧ 8 + (maxL + 11) + rm.locals ≤ R.locals) (hf : cells + rm.cells ≤ R.cells ∧ slots + rm.slots ≤ R.slots) (hdg : decode cc pc = .ok (.invokevirtual index, 3))
    (kk : ∀ (r : Option Value) (kd' : sK) (ig' : sI) (rg' : sR) (lg' : sG) (H' : Heap) (locs' : List Loc), WD B D cA s.heap kd' ig' rg' lg' H' locs' → H.size ≤ H'.size → Post r kd' ig' rg' lg' H'.size → W p l e R s m args below meth c H' locs' (cells + rm.cells) (slots + rm.slots) Q (F0 m (pc + 3) ls (r.toList ++ rest))) : W p l e R s m args below meth c H locs cells slots Q (F0 m pc ls st) := by
  obtain ⟨s1, s2, s3, s4, s5, ⟨q, s6, s6'⟩, s7, s8, s9, s10⟩ := sv
  have hob := hw.1 b k nb hkb
  unfold PWat at hob
  rw [if_pos s7] at hob
  obtain ⟨cellB, g1, g2, g3, -⟩ := hob
  refine r_goes hw (va_runV (C := y.cls) (bytes := cb) (maxL := maxL) (ret := ret) (n := na) (index := index) C.1 hM (cwV na C.1.2.2.2.2 (TBg_all ?_) rfl rfl rfl ⟨rfl, s8, s9, s10⟩ hR) ⟨PcW.blind, ⟨cellB, g1, by rw [g3]; rfl, ?_⟩, PcW.pre C hw⟩ rfl hn hsize hst (lv_room hrest) hdg hf) kk
  · intro w hw
    simp only [wsV, List.mem_append, List.mem_cons, List.not_mem_nil, or_false] at hw
    rcases hw with (rfl | rfl | rfl | rfl) | rfl | h
    · exact s1
    · exact s2
    · exact s3
    · exact s4
    · exact s5
    · exact h
  · rw [g2, ← s6']
    exact (C.2.1.1 k q s6).2.1
theorem r_callS (C : Cx p m c cc nL s args own D cA) (hw : WD B D cA s.heap kd ig rg lg H locs) (hM : MC l B D cA y cb maxL ret rm As kd ig rg lg H.size Post) (sv : SS own index y cb maxL ret na) (hn : As.length = na) (hsize : ls.size = nL) (hst : st = As.reverse ++ rest) (hrest : (rest.map fun v => v.category).sum ≤ 8) (hR : rm.frames + 1 ≤ R.frames ∧ 8 + (maxL + 11) + rm.locals ≤ R.locals) (hf : cells + rm.cells ≤ R.cells ∧ slots + rm.slots ≤ R.slots) (hdg : decode cc pc = .ok (.invokestatic index, 3))
    (kk : ∀ (r : Option Value) (kd' : sK) (ig' : sI) (rg' : sR) (lg' : sG) (H' : Heap) (locs' : List Loc), WD B D cA s.heap kd' ig' rg' lg' H' locs' → H.size ≤ H'.size → Post r kd' ig' rg' lg' H'.size → W p l e R s m args below meth c H' locs' (cells + rm.cells) (slots + rm.slots) Q (F0 m (pc + 3) ls (r.toList ++ rest))) : W p l e R s m args below meth c H locs cells slots Q (F0 m pc ls st) := by
  obtain ⟨s1, s2, s3, s5, s8, s9, s10⟩ := sv
  refine r_goes hw (va_runS (bytes := cb) (maxL := maxL) (ret := ret) (n := na) (index := index) C.1 hM (va_cwS na C.1.2.2.2.2 (TBg_all ?_) rfl rfl rfl ⟨s8, s9, s10⟩ hR) ⟨PcW.blind, PcW.pre C hw⟩ rfl hn hsize hst (lv_room hrest) hdg hf) kk
  intro w hw
  simp only [va_wsS, List.mem_append, List.mem_cons, List.not_mem_nil, or_false] at hw
  rcases hw with (rfl | rfl | rfl) | rfl | h
  · exact s1
  · exact s2
  · exact s3
  · exact s5
  · exact h
theorem r_callN {host : String} (C : Cx p m c cc nL s args own D cA) (hw : WD B D cA s.heap kd ig rg lg H locs) (hM : MC l B D cA y cb maxL ret rm As kd ig rg lg H.size Post) (sv : SN own index y host cb maxL ret na) (hn : As.length = na) (hsize : ls.size = nL) (hst : st = As.reverse ++ rest) (hrest : (rest.map fun v => v.category).sum ≤ 8) (hR : rm.frames + 1 ≤ R.frames ∧ 8 + (maxL + 11) + rm.locals ≤ R.locals) (hf : cells + rm.cells ≤ R.cells ∧ slots + rm.slots ≤ R.slots) (hdg : decode cc pc = .ok (.invokestatic index, 3))
    (kk : ∀ (r : Option Value) (kd' : sK) (ig' : sI) (rg' : sR) (lg' : sG) (H' : Heap) (locs' : List Loc), WD B D cA s.heap kd' ig' rg' lg' H' locs' → H.size ≤ H'.size → Post r kd' ig' rg' lg' H'.size → W p l e R s m args below meth c H' locs' (cells + rm.cells) (slots + rm.slots) Q (F0 m (pc + 3) ls (r.toList ++ rest))) : W p l e R s m args below meth c H locs cells slots Q (F0 m pc ls st) := by
  obtain ⟨s1, s2, s3, s5, s8, s9, s10⟩ := sv
  have hts := C.1.2.2.2.2
  refine r_goes hw (va_runSN (bytes := cb) (maxL := maxL) (ret := ret) (n := na) (index := index) (host := host) C.1 hM ⟨va_cnB na hts (TBg_all ?_) rfl rfl rfl (C.2.2.1 _ s1) (hts _ s3) ⟨s8, s9, s10⟩ hR, hts _ s2, trivial⟩ ⟨PcW.blind, PcW.pre C hw⟩ rfl hn hsize hst (lv_room hrest) hdg hf) kk
  intro w hw
  rcases List.mem_cons.mp hw with rfl | h
  · exact s5
  · exact h
theorem r_callI {b : Nat} (C : Cx p m c cc nL s args own D cA) (hw : WD B D cA s.heap kd ig rg lg H locs) (hM : MC l B D cA y cb maxL none rm (.ref b :: As) kd ig rg lg H.size Post) (sv : SC own index y cb maxL na) (hn : As.length = na) (hsize : ls.size = nL) (hst : st = As.reverse ++ .ref b :: rest) (hrest : (rest.map fun v => v.category).sum ≤ 8) (hR : rm.frames + 1 ≤ R.frames ∧ 8 + (maxL + 11) + rm.locals ≤ R.locals) (hf : cells + rm.cells ≤ R.cells ∧ slots + rm.slots ≤ R.slots) (hdg : decode cc pc = .ok (.invokespecial index, 3))
    (kk : ∀ (r : Option Value) (kd' : sK) (ig' : sI) (rg' : sR) (lg' : sG) (H' : Heap) (locs' : List Loc), WD B D cA s.heap kd' ig' rg' lg' H' locs' → H.size ≤ H'.size → Post r kd' ig' rg' lg' H'.size → W p l e R s m args below meth c H' locs' (cells + rm.cells) (slots + rm.slots) Q (F0 m (pc + 3) ls (r.toList ++ rest))) : W p l e R s m args below meth c H locs cells slots Q (F0 m pc ls st) := by
  obtain ⟨s1, s2, s3, s5, s6, s8, s9, s10⟩ := sv
  have hts := C.1.2.2.2.2
  refine r_goes hw (va_runI (bytes := cb) (maxL := maxL) (n := na) (index := index) C.1 hM (cwI na hts (TBg_all ?_) rfl rfl rfl (hts _ s3) (hts _ s1) (hts _ s2) s6 ⟨s8, s9, s10⟩ hR) ⟨PcW.blind, PcW.pre C hw⟩ rfl hn hsize hst (lv_room hrest) hdg hf) kk
  intro w hw
  rcases List.mem_cons.mp hw with rfl | h
  · exact s5
  · exact h
theorem r_obj (C : Cx p m c cc nL s args own D cA) (hl : Cond.methodLink own index Lib.objectInit ∈ TBg) (hi : Cond.instanceMethod Lib.objectInit ∈ TBg) (hcd : Cond.code Lib.objectInit ⟨#[0xb1]⟩ 1 none ∈ TBg) {b : Nat} (hsize : ls.size = nL) (hf : 1 ≤ R.frames) (hlc : (rest.map fun v => v.category).sum + 12 ≤ R.locals) (hdg : decode cc pc = .ok (.invokespecial index, 3))
    (kk : W p l e R s m args below meth c H locs cells slots Q (F0 m (pc + 3) ls rest)) : W p l e R s m args below meth c H locs cells slots Q (F0 m pc ls (.ref b :: rest)) := by
  obtain ⟨⟨hx, hb, hml, hown, hts⟩, hK⟩ := C
  exact W.objInit hx hb hown (hts _ hl) (hts _ hi) (hts _ hcd) rfl (hsize.trans hml.symm) rfl hdg hf (by simpa [JFrame.monitorRoom] using hlc) kk
theorem QcW.now (hw : WD B D cA s.heap kd ig rg lg H locs) {r : Option Value} (hP : Post r kd ig rg lg H.size) : ∀ t : State, t.heap = H → s.WarmedH t.vm → QcW B D cA Post args s (.returned r) t := fun t ht hW => ⟨r, kd, ig, rg, lg, rfl, by rw [ht]; exact hw.1, hw.2.1, by rw [ht]; exact hw.2.2.1.1, fun q hq => by rw [ht]; exact hw.2.2.1.2.1 q (Nat.lt_of_lt_of_le hq hw.2.2.2) (Nat.not_le.mpr hq), by rw [ht]; exact hP⟩
theorem r_iret {ty : FieldType} {v : Int32} {mc ms : Nat} (C : Cx p m c cc nL s args own D cA) (hw : WD B D cA s.heap kd ig rg lg H locs) (hr : meth.sig.returnType = some ty) (hlk : meth.locks = false) (hn : narrow ty (.int v) = .int v) (h1 : cells ≤ mc) (h2 : slots ≤ ms) (hdg : decode cc pc = .ok (.ireturn, 1)) (hP : Post (some (.int v)) kd ig rg lg H.size) : W p l e R s m args below meth c H locs cells slots (MQ below (QcW B D cA Post) args s mc ms (fun q => B ≤ q)) (F0 m pc ls [.int v]) :=
  W.widen h1 h2 (W.zret C.1.1 C.1.2.1 hr hn (QcW.now hw hP) hw.2.2.1.2.2 hdg hlk)
theorem r_vret {mc ms : Nat} (C : Cx p m c cc nL s args own D cA) (hw : WD B D cA s.heap kd ig rg lg H locs) (hr : meth.sig.returnType = none) (hlk : meth.locks = false) (h1 : cells ≤ mc) (h2 : slots ≤ ms) (hdg : decode cc pc = .ok (.return_, 1)) (hP : Post none kd ig rg lg H.size) : W p l e R s m args below meth c H locs cells slots (MQ below (QcW B D cA Post) args s mc ms (fun q => B ≤ q)) (F0 m pc ls []) :=
  W.widen h1 h2 (W.vret C.1.1 C.1.2.1 hr (QcW.now hw hP) hw.2.2.1.2.2 hdg hlk)
theorem r_aret {n : String} {v : Value} {mc ms : Nat} (C : Cx p m c cc nL s args own D cA) (hw : WD B D cA s.heap kd ig rg lg H locs) (hr : meth.sig.returnType = some (.object n)) (hlk : meth.locks = false) (hv : v = .null ∨ ∃ a, v = .ref a) (h1 : cells ≤ mc) (h2 : slots ≤ ms) (hdg : decode cc pc = .ok (.areturn, 1)) (hP : Post (some v) kd ig rg lg H.size) : W p l e R s m args below meth c H locs cells slots (MQ below (QcW B D cA Post) args s mc ms (fun q => B ≤ q)) (F0 m pc ls [v]) :=
  W.widen h1 h2 (W.aret C.1.1 C.1.2.1 hr (Or.inl ⟨n, rfl⟩) hv (QcW.now hw hP) hw.2.2.1.2.2 hdg hlk)
end CALLS
end
section
/-! numbers by their values -/
theorem i32_add {x y : Int32} (h1 : -2147483648 ≤ x.toInt + y.toInt) (h2 : x.toInt + y.toInt ≤ 2147483647) : (x + y).toInt = x.toInt + y.toInt := by
  rw [Int32.toInt_add]
  exact Int.bmod_eq_of_le (by omega) (by omega)
theorem i32_sub {x y : Int32} (h1 : -2147483648 ≤ x.toInt - y.toInt) (h2 : x.toInt - y.toInt ≤ 2147483647) : (x - y).toInt = x.toInt - y.toInt := by
  rw [Int32.toInt_sub]
  exact Int.bmod_eq_of_le (by omega) (by omega)
theorem i32_mul {x y : Int32} (h1 : -2147483648 ≤ x.toInt * y.toInt) (h2 : x.toInt * y.toInt ≤ 2147483647) : (x * y).toInt = x.toInt * y.toInt := by
  rw [Int32.toInt_mul]
  exact Int.bmod_eq_of_le (by omega) (by omega)
theorem i32_lo (x : Int32) : -2147483648 ≤ x.toInt := Int32.le_toInt x
theorem i32_hi (x : Int32) : x.toInt ≤ 2147483647 := Int.le_of_lt_add_one (Int32.toInt_lt x)
theorem i32_div {x y : Int32} (h0 : 0 ≤ x.toInt) (h1 : 0 < y.toInt) : (x / y).toInt = x.toInt / y.toInt := by
  have hx := i32_hi x
  have h2 : 0 ≤ x.toInt / y.toInt := Int.ediv_nonneg h0 (Int.le_of_lt h1)
  have h3 : x.toInt / y.toInt ≤ x.toInt := Int.ediv_le_self _ h0
  rw [Int32.toInt_div, Int.tdiv_eq_ediv_of_nonneg h0]
  exact Int.bmod_eq_of_le (by omega) (by omega)
theorem i32_rem {x y : Int32} (h0 : 0 ≤ x.toInt) (h1 : 0 < y.toInt) : (x - x / y * y).toInt = x.toInt % y.toInt := by
  have hx := i32_hi x
  have hd := i32_div h0 h1
  have e1 : x.toInt / y.toInt * y.toInt = x.toInt - x.toInt % y.toInt := by
    have := Int.mul_ediv_add_emod x.toInt y.toInt
    rw [Int.mul_comm] at this
    omega
  have h2 : 0 ≤ x.toInt % y.toInt := Int.emod_nonneg _ (by omega)
  have h4 : x.toInt % y.toInt ≤ x.toInt := by
    have h5 : 0 ≤ x.toInt / y.toInt * y.toInt := Int.mul_nonneg (Int.ediv_nonneg h0 (Int.le_of_lt h1)) (Int.le_of_lt h1)
    omega
  have e2 : (x / y * y).toInt = x.toInt - x.toInt % y.toInt := by
    rw [i32_mul (by rw [hd, e1]; omega) (by rw [hd, e1]; omega), hd, e1]
  rw [i32_sub (by rw [e2]; omega) (by rw [e2]; omega), e2]
  omega
section NUMS
variable {p : Program} {l : Launch} {e : Env} {R : Room} {s : State} {m : MethodId} {args : Array Value} {below : List Frame} {meth : Method} {c : Code} {H : Heap} {locs : List Loc} {cells slots : Nat} {Q : State → Prop}
variable {cc : ByteArray} {pc : Nat} {ls : Array Slot} {rest : List Value}
theorem ti_c {v : Int32} (n : Int) (h : v.toInt = n) (k : ∀ z : Int32, z.toInt = n → W p l e R s m args below meth c H locs cells slots Q (F0 m pc ls (.int z :: rest))) : W p l e R s m args below meth c H locs cells slots Q (F0 m pc ls (.int v :: rest)) := k v h
theorem ti_any {v : Int32} (k : ∀ z : Int32, W p l e R s m args below meth c H locs cells slots Q (F0 m pc ls (.int z :: rest))) : W p l e R s m args below meth c H locs cells slots Q (F0 m pc ls (.int v :: rest)) := k v
theorem ti_anyl {v : Int64} (k : ∀ z : Int64, W p l e R s m args below meth c H locs cells slots Q (F0 m pc ls (.long z :: rest))) : W p l e R s m args below meth c H locs cells slots Q (F0 m pc ls (.long v :: rest)) := k v
theorem ti_add {x y : Int32} (h : -2147483648 ≤ x.toInt + y.toInt ∧ x.toInt + y.toInt ≤ 2147483647) (k : ∀ z : Int32, z.toInt = x.toInt + y.toInt → W p l e R s m args below meth c H locs cells slots Q (F0 m pc ls (.int z :: rest))) : W p l e R s m args below meth c H locs cells slots Q (F0 m pc ls (.int (x + y) :: rest)) := k _ (i32_add h.1 h.2)
theorem ti_sub {x y : Int32} (h : -2147483648 ≤ x.toInt - y.toInt ∧ x.toInt - y.toInt ≤ 2147483647) (k : ∀ z : Int32, z.toInt = x.toInt - y.toInt → W p l e R s m args below meth c H locs cells slots Q (F0 m pc ls (.int z :: rest))) : W p l e R s m args below meth c H locs cells slots Q (F0 m pc ls (.int (x - y) :: rest)) := k _ (i32_sub h.1 h.2)
/-- a product by a known number: n * x -/
theorem ti_mulL {x y : Int32} (n : Int) (hn : x.toInt = n) (h : -2147483648 ≤ n * y.toInt ∧ n * y.toInt ≤ 2147483647) (k : ∀ z : Int32, z.toInt = n * y.toInt → W p l e R s m args below meth c H locs cells slots Q (F0 m pc ls (.int z :: rest))) : W p l e R s m args below meth c H locs cells slots Q (F0 m pc ls (.int (x * y) :: rest)) := k _ (by rw [← hn]; exact i32_mul (by rw [hn]; exact h.1) (by rw [hn]; exact h.2))
theorem ti_mulR {x y : Int32} (n : Int) (hn : y.toInt = n) (h : -2147483648 ≤ x.toInt * n ∧ x.toInt * n ≤ 2147483647) (k : ∀ z : Int32, z.toInt = x.toInt * n → W p l e R s m args below meth c H locs cells slots Q (F0 m pc ls (.int z :: rest))) : W p l e R s m args below meth c H locs cells slots Q (F0 m pc ls (.int (x * y) :: rest)) := k _ (by rw [← hn]; exact i32_mul (by rw [hn]; exact h.1) (by rw [hn]; exact h.2))
theorem ti_div {x y : Int32} (n : Int) (hn : y.toInt = n) (h0 : 0 ≤ x.toInt) (h1 : 0 < n) (k : ∀ z : Int32, z.toInt = x.toInt / n → W p l e R s m args below meth c H locs cells slots Q (F0 m pc ls (.int z :: rest))) : W p l e R s m args below meth c H locs cells slots Q (F0 m pc ls (.int (x / y) :: rest)) := k _ (by rw [← hn]; exact i32_div h0 (by omega))
theorem ti_rem {x y : Int32} (n : Int) (hn : y.toInt = n) (h0 : 0 ≤ x.toInt) (h1 : 0 < n) (k : ∀ z : Int32, z.toInt = x.toInt % n → W p l e R s m args below meth c H locs cells slots Q (F0 m pc ls (.int z :: rest))) : W p l e R s m args below meth c H locs cells slots Q (F0 m pc ls (.int (x - x / y * y) :: rest)) := k _ (by rw [← hn]; exact i32_rem h0 (by omega))
theorem ne0_of {y : Int32} (h : y.toInt ≠ 0) : ¬ y = 0 := fun e => h (by rw [e]; rfl)
theorem i32_inj {x y : Int32} (h : x.toInt = y.toInt) : x = y := Int32.toInt_inj.mp h
variable {x y : Int32} {off : Int} {tgt : Nat}
theorem b_lt (hx : p.tables.exec = Jvm.exec) (hb : c.code = cc) (hdg : decode cc pc = .ok (.if_icmp .lt off, 3)) (ht : (pc : Int) + off = (tgt : Int)) (kt : x.toInt < y.toInt → W p l e R s m args below meth c H locs cells slots Q (F0 m tgt ls rest)) (kf : y.toInt ≤ x.toInt → W p l e R s m args below meth c H locs cells slots Q (F0 m (pc + 3) ls rest)) : W p l e R s m args below meth c H locs cells slots Q (F0 m pc ls (.int y :: .int x :: rest)) :=
  lv_icmp_lt hx hb hdg ht (fun h => kt (Int32.lt_iff_toInt_lt.mp h)) (fun h => kf (by rw [Int32.lt_iff_toInt_lt] at h; omega))
theorem b_ge (hx : p.tables.exec = Jvm.exec) (hb : c.code = cc) (hdg : decode cc pc = .ok (.if_icmp .ge off, 3)) (ht : (pc : Int) + off = (tgt : Int)) (kt : y.toInt ≤ x.toInt → W p l e R s m args below meth c H locs cells slots Q (F0 m tgt ls rest)) (kf : x.toInt < y.toInt → W p l e R s m args below meth c H locs cells slots Q (F0 m (pc + 3) ls rest)) : W p l e R s m args below meth c H locs cells slots Q (F0 m pc ls (.int y :: .int x :: rest)) :=
  lv_icmp_ge hx hb hdg ht (fun h => kt (Int32.le_iff_toInt_le.mp h)) (fun h => kf (by rw [Int32.le_iff_toInt_le] at h; omega))
theorem b_gt (hx : p.tables.exec = Jvm.exec) (hb : c.code = cc) (hdg : decode cc pc = .ok (.if_icmp .gt off, 3)) (ht : (pc : Int) + off = (tgt : Int)) (kt : y.toInt < x.toInt → W p l e R s m args below meth c H locs cells slots Q (F0 m tgt ls rest)) (kf : x.toInt ≤ y.toInt → W p l e R s m args below meth c H locs cells slots Q (F0 m (pc + 3) ls rest)) : W p l e R s m args below meth c H locs cells slots Q (F0 m pc ls (.int y :: .int x :: rest)) :=
  lv_icmp_gt hx hb hdg ht (fun h => kt (Int32.lt_iff_toInt_lt.mp h)) (fun h => kf (by rw [Int32.lt_iff_toInt_lt] at h; omega))
theorem b_le (hx : p.tables.exec = Jvm.exec) (hb : c.code = cc) (hdg : decode cc pc = .ok (.if_icmp .le off, 3)) (ht : (pc : Int) + off = (tgt : Int)) (kt : x.toInt ≤ y.toInt → W p l e R s m args below meth c H locs cells slots Q (F0 m tgt ls rest)) (kf : y.toInt < x.toInt → W p l e R s m args below meth c H locs cells slots Q (F0 m (pc + 3) ls rest)) : W p l e R s m args below meth c H locs cells slots Q (F0 m pc ls (.int y :: .int x :: rest)) :=
  lv_icmp_le hx hb hdg ht (fun h => kt (Int32.le_iff_toInt_le.mp h)) (fun h => kf (by rw [Int32.le_iff_toInt_le] at h; omega))
theorem b_eq (hx : p.tables.exec = Jvm.exec) (hb : c.code = cc) (hdg : decode cc pc = .ok (.if_icmp .eq off, 3)) (ht : (pc : Int) + off = (tgt : Int)) (kt : x.toInt = y.toInt → W p l e R s m args below meth c H locs cells slots Q (F0 m tgt ls rest)) (kf : x.toInt ≠ y.toInt → W p l e R s m args below meth c H locs cells slots Q (F0 m (pc + 3) ls rest)) : W p l e R s m args below meth c H locs cells slots Q (F0 m pc ls (.int y :: .int x :: rest)) :=
  lv_icmp_eq hx hb hdg ht (fun h => kt (by rw [h])) (fun h => kf (fun q => h (i32_inj q)))
theorem b_ne (hx : p.tables.exec = Jvm.exec) (hb : c.code = cc) (hdg : decode cc pc = .ok (.if_icmp .ne off, 3)) (ht : (pc : Int) + off = (tgt : Int)) (kt : x.toInt ≠ y.toInt → W p l e R s m args below meth c H locs cells slots Q (F0 m tgt ls rest)) (kf : x.toInt = y.toInt → W p l e R s m args below meth c H locs cells slots Q (F0 m (pc + 3) ls rest)) : W p l e R s m args below meth c H locs cells slots Q (F0 m pc ls (.int y :: .int x :: rest)) :=
  lv_icmp_ne hx hb hdg ht (fun h => kt (fun q => h (i32_inj q))) (fun h => kf (by first | rw [h] | rw [Classical.not_not.mp h]))
theorem z_lt (hx : p.tables.exec = Jvm.exec) (hb : c.code = cc) (hdg : decode cc pc = .ok (.ifCond .lt off, 3)) (ht : (pc : Int) + off = (tgt : Int)) (kt : x.toInt < 0 → W p l e R s m args below meth c H locs cells slots Q (F0 m tgt ls rest)) (kf : 0 ≤ x.toInt → W p l e R s m args below meth c H locs cells slots Q (F0 m (pc + 3) ls rest)) : W p l e R s m args below meth c H locs cells slots Q (F0 m pc ls (.int x :: rest)) :=
  lv_if_lt hx hb hdg ht (fun h => kt (Int32.lt_iff_toInt_lt.mp h)) (fun h => kf (by rw [Int32.lt_iff_toInt_lt, Int32.toInt_zero] at h; omega))
theorem z_ge (hx : p.tables.exec = Jvm.exec) (hb : c.code = cc) (hdg : decode cc pc = .ok (.ifCond .ge off, 3)) (ht : (pc : Int) + off = (tgt : Int)) (kt : 0 ≤ x.toInt → W p l e R s m args below meth c H locs cells slots Q (F0 m tgt ls rest)) (kf : x.toInt < 0 → W p l e R s m args below meth c H locs cells slots Q (F0 m (pc + 3) ls rest)) : W p l e R s m args below meth c H locs cells slots Q (F0 m pc ls (.int x :: rest)) :=
  lv_if_ge hx hb hdg ht (fun h => kt (Int32.le_iff_toInt_le.mp h)) (fun h => kf (by rw [Int32.le_iff_toInt_le, Int32.toInt_zero] at h; omega))
theorem z_gt (hx : p.tables.exec = Jvm.exec) (hb : c.code = cc) (hdg : decode cc pc = .ok (.ifCond .gt off, 3)) (ht : (pc : Int) + off = (tgt : Int)) (kt : 0 < x.toInt → W p l e R s m args below meth c H locs cells slots Q (F0 m tgt ls rest)) (kf : x.toInt ≤ 0 → W p l e R s m args below meth c H locs cells slots Q (F0 m (pc + 3) ls rest)) : W p l e R s m args below meth c H locs cells slots Q (F0 m pc ls (.int x :: rest)) :=
  lv_if_gt hx hb hdg ht (fun h => kt (Int32.lt_iff_toInt_lt.mp h)) (fun h => kf (by rw [Int32.lt_iff_toInt_lt, Int32.toInt_zero] at h; omega))
theorem z_le (hx : p.tables.exec = Jvm.exec) (hb : c.code = cc) (hdg : decode cc pc = .ok (.ifCond .le off, 3)) (ht : (pc : Int) + off = (tgt : Int)) (kt : x.toInt ≤ 0 → W p l e R s m args below meth c H locs cells slots Q (F0 m tgt ls rest)) (kf : 0 < x.toInt → W p l e R s m args below meth c H locs cells slots Q (F0 m (pc + 3) ls rest)) : W p l e R s m args below meth c H locs cells slots Q (F0 m pc ls (.int x :: rest)) :=
  lv_if_le hx hb hdg ht (fun h => kt (Int32.le_iff_toInt_le.mp h)) (fun h => kf (by rw [Int32.le_iff_toInt_le, Int32.toInt_zero] at h; omega))
theorem z_eq (hx : p.tables.exec = Jvm.exec) (hb : c.code = cc) (hdg : decode cc pc = .ok (.ifCond .eq off, 3)) (ht : (pc : Int) + off = (tgt : Int)) (kt : x.toInt = 0 → W p l e R s m args below meth c H locs cells slots Q (F0 m tgt ls rest)) (kf : x.toInt ≠ 0 → W p l e R s m args below meth c H locs cells slots Q (F0 m (pc + 3) ls rest)) : W p l e R s m args below meth c H locs cells slots Q (F0 m pc ls (.int x :: rest)) :=
  lv_if_eq hx hb hdg ht (fun h => kt (by rw [h]; rfl)) (fun h => kf (fun q => h (i32_inj q)))
theorem z_ne (hx : p.tables.exec = Jvm.exec) (hb : c.code = cc) (hdg : decode cc pc = .ok (.ifCond .ne off, 3)) (ht : (pc : Int) + off = (tgt : Int)) (kt : x.toInt ≠ 0 → W p l e R s m args below meth c H locs cells slots Q (F0 m tgt ls rest)) (kf : x.toInt = 0 → W p l e R s m args below meth c H locs cells slots Q (F0 m (pc + 3) ls rest)) : W p l e R s m args below meth c H locs cells slots Q (F0 m pc ls (.int x :: rest)) :=
  lv_if_ne hx hb hdg ht (fun h => kt (fun q => h (i32_inj q))) (fun h => kf (by first | (rw [h]; rfl) | (rw [Classical.not_not.mp h]; rfl)))
end NUMS
end
section
section ROWS3
variable {p : Program} {l : Launch} {e : Env} {R : Room} {s : State} {m : MethodId} {args : Array Value} {below : List Frame} {meth : Method} {c : Code} {H : Heap} {locs : List Loc} {cells slots : Nat} {Q : State → Prop}
variable {cc : ByteArray} {pc : Nat} {ls : Array Slot} {rest : List Value}
theorem ti_inc (hx : p.tables.exec = Jvm.exec) (hb : c.code = cc) {i nL k : Nat} {n : Int} {x : Int32} {lv : List (Nat × Value)} (hdg : decode cc pc = .ok (.iinc i n, 3)) (h : lv_has ls nL lv) (hk : lv[k]? = some (i, .int x)) (hn : i < nL) (hi : (Int32.ofInt n).toInt = n) (hr : -2147483648 ≤ x.toInt + n ∧ x.toInt + n ≤ 2147483647)
    (kk : ∀ z : Int32, z.toInt = x.toInt + n → ∀ ls' : Array Slot, lv_has ls' nL ((i, Value.int z) :: lv.filter (fun q => !(q.1 == i) && !(q.1 + 1 == i && q.2.category == 2))) → W p l e R s m args below meth c H locs cells slots Q (F0 m (pc + 3) ls' rest)) : W p l e R s m args below meth c H locs cells slots Q (F0 m pc ls rest) :=
  lv_iinc hx hb hdg h hk rfl hn rfl (kk _ (by rw [i32_add (by rw [hi]; exact hr.1) (by rw [hi]; exact hr.2), hi]))
theorem nar_b {z : Int32} (h : z.toInt = 0 ∨ z.toInt = 1) : narrow .boolean (.int z) = .int z := by
  rcases h with h | h
  · have e1 : z = 0 := i32_inj h
    subst e1; rfl
  · have e1 : z = 1 := i32_inj h
    subst e1; rfl
theorem fit_b {z : Int32} (h : z.toInt = 0 ∨ z.toInt = 1) : fits .boolean (.int z) = true := by
  rcases h with h | h
  · have e1 : z = 0 := i32_inj h
    subst e1; rfl
  · have e1 : z = 1 := i32_inj h
    subst e1; rfl
end ROWS3
/-! the layout: what is made by new SheetDoctor(), new SheetDoctorModel(), new long[1], in this order, from the address B on -/
def shp : List (Nat × Nat) := [(11, 0), (7, 0), (21, 120), (20, 121), (20, 121), (20, 121), (20, 120), (20, 120), (20, 120), (6, 0), (0, 0), (24, 288), (22, 288), (20, 20), (24, 20), (5, 0), (20, 288), (23, 5), (23, 1440), (23, 1440), (22, 288), (20, 288), (20, 288), (20, 288), (10, 0), (20, 288), (20, 288), (20, 288), (20, 32), (2, 0), (20, 288), (20, 288), (9, 0), (20, 864), (22, 288), (20, 288), (20, 96), (8, 0), (22, 288), (20, 288), (20, 288), (23, 1440), (23, 1440), (3, 0), (20, 900), (1, 0), (20, 288), (20, 288), (20, 1440),
  (12, 0), (20, 120), (20, 122), (20, 122), (23, 122), (20, 37080), (20, 37080), (20, 37080), (20, 37080), (20, 309), (20, 309), (20, 309), (20, 927), (22, 288), (20, 20), (23, 1440), (23, 1440), (20, 288), (20, 288), (20, 864), (22, 288), (22, 288), (20, 288), (20, 82944), (22, 288), (20, 90), (20, 900), (20, 288), (20, 288), (20, 1440), (23, 1)]
/-- object, field, what it points to: never changed once made -/
def rfp : List (Nat × Nat × Nat) := [(0, 0, 1), (0, 1, 9), (0, 2, 15), (0, 3, 24), (0, 4, 29), (0, 5, 32), (0, 6, 37), (0, 7, 43), (0, 8, 45), (1, 0, 2), (1, 3, 3), (1, 4, 4), (1, 5, 5), (1, 9, 6), (1, 10, 7), (1, 11, 8), (9, 0, 10), (9, 1, 11), (9, 2, 12), (9, 3, 13), (9, 4, 14), (15, 0, 9), (15, 1, 16), (15, 3, 17), (15, 4, 18), (15, 5, 19), (15, 6, 20), (15, 7, 21), (15, 8, 22), (15, 10, 23), (24, 0, 9), (24, 1, 15), (24, 2, 25), (24, 3, 26), (24, 4, 27), (24, 5, 28), (29, 0, 9), (29, 1, 30), (29, 2, 31),
  (32, 0, 9), (32, 1, 15), (32, 2, 33), (32, 3, 34), (32, 4, 35), (32, 5, 36), (37, 0, 9), (37, 1, 15), (37, 2, 38), (37, 3, 39), (37, 4, 40), (37, 5, 41), (37, 6, 42), (43, 0, 9), (43, 1, 15), (43, 2, 29), (43, 3, 32), (43, 4, 37), (43, 5, 44), (45, 0, 24), (45, 1, 46), (45, 2, 47), (45, 3, 48)]
def rfm : List (Nat × Nat × Nat) := [(49, 1, 50), (49, 4, 51), (49, 5, 52), (49, 6, 53), (49, 9, 54), (49, 10, 55), (49, 11, 56), (49, 12, 57), (49, 13, 58), (49, 15, 59), (49, 16, 60), (49, 17, 61), (49, 18, 62), (49, 20, 63), (49, 21, 64), (49, 22, 65), (49, 23, 66), (49, 24, 67), (49, 25, 68), (49, 26, 69), (49, 27, 70), (49, 28, 71), (49, 29, 72), (49, 30, 73), (49, 36, 74), (49, 38, 75), (49, 39, 76), (49, 40, 77), (49, 42, 78)]
def Sh (B : Nat) (kd : sK) : Prop := ∀ c q, shp[c]? = some q → kd (B + c) = some q
def Rs (B : Nat) (rg : sR) : Prop := ∀ x ∈ rfp, rg (B + x.1) x.2.1 = some (B + x.2.2)
def Rm (B : Nat) (rg : sR) : Prop := ∀ x ∈ rfm, rg (B + x.1) x.2.1 = some (B + x.2.2)
/-- the same but between two places of the layout -/
def Off {α : Type} (B lo hi : Nat) (f g : Nat → Nat → α) : Prop := ∀ a j, ¬ (B + lo ≤ a ∧ a < B + hi) → f a j = g a j
end
section
/-- the fresh sheet: all cells are the blank one; nothing is kept -/
def FS (B : Nat) (kd : sK) (ig : sI) (rg : sR) : Prop := Sh B kd ∧ Rs B rg ∧ (∀ j, j < 288 → rg (B + 11) j = some (B + 10)) ∧ rg (B + 10) 2 = none ∧ (∀ j, ig (B + 10) j = 0) ∧ (∀ j, ig (B + 9) j = 0) ∧ (∀ j, ig (B + 12) j = 0)
theorem z0 {x : Int32} (h : x = 0) : x.toInt = 0 := by rw [h]; rfl
theorem zm1 {x : Int32} (h : x = -1) : x.toInt = -1 := by rw [h]; rfl
theorem FS.off {B : Nat} {kd : sK} {ig ig' : sI} {rg : sR} {lo hi : Nat} (h : FS B kd ig rg) (ho : Off B lo hi ig' ig) (hl : 15 ≤ lo) : FS B kd ig' rg := by
  obtain ⟨h1, h2, h3, h4, h5, h6, h7⟩ := h
  exact ⟨h1, h2, h3, h4, fun j => (ho _ j (by omega)).trans (h5 j), fun j => (ho _ j (by omega)).trans (h6 j), fun j => (ho _ j (by omega)).trans (h7 j)⟩
theorem FS.bi {B : Nat} {kd : sK} {ig : sI} {rg : sR} (h : FS B kd ig rg) : ∀ j, ig (B + 10) j = 0 := h.2.2.2.2.1
theorem FS.si {B : Nat} {kd : sK} {ig : sI} {rg : sR} (h : FS B kd ig rg) : ∀ j, ig (B + 9) j = 0 := h.2.2.2.2.2.1
theorem FS.ke {B : Nat} {kd : sK} {ig : sI} {rg : sR} (h : FS B kd ig rg) : ∀ j, ig (B + 12) j = 0 := h.2.2.2.2.2.2

set_option maxHeartbeats 4000000 in
set_option maxRecDepth 100000 in
theorem t_X11_onSheet (l : Launch) (B : Nat) (D : va_G) (cA : Nat → ClassId) (kd : sK) (ig : sI) (rg : sR) (lg : sG) (sz : Nat) (x : Int32) : MC l B D cA yX11_onSheet cX11_onSheet 1 (some .boolean) (rL 0 0 0) [.int x] kd ig rg lg sz (Pu kd ig rg lg sz (fun r => ∃ z : Int32, r = some (.int z) ∧ ((0 ≤ x.toInt ∧ x.toInt < 288) → z.toInt = 1) ∧ (¬ (0 ≤ x.toInt ∧ x.toInt < 288) → z.toInt = 0))) := by
  refine MC.of (own := RX11) (by decide +kernel) rfl (Nat.le_of_ble_eq_true rfl) ?_
  intro p e s m args below meth c ls C hr hlk hnm hw hsz hl
  have hx := C.1.1
  have hb := C.1.2.1
  have hown := C.1.2.2.2.1
  have hts := C.1.2.2.2.2
  have hl : lv_has ls 1 [(0, .int x)] := hl
  refine lv_iload_n hx hb dX11_onSheet_0 rfl (lv_at hl 0 rfl) ?_
  refine z_lt (tgt := 15) hx hb dX11_onSheet_1 (by decide) (fun c1 => ?_) (fun c1 => ?_)
  · refine lv_iconst (v := 0) hx hb dX11_onSheet_15 (by decide) (ti_c 0 (by decide) fun z1 hz1 => ?_)
    exact r_iret C hw hr hlk (nar_b (by omega)) (Nat.le_of_ble_eq_true rfl) (Nat.le_of_ble_eq_true rfl) dX11_onSheet_16 ⟨rfl, rfl, rfl, rfl, hsz, _, rfl, by omega⟩
  · refine lv_iload_n hx hb dX11_onSheet_4 rfl (lv_at hl 0 rfl) ?_
    refine lv_sipush (v := 288) hx hb dX11_onSheet_5 (by decide) (ti_c 288 (by decide) fun z2 hz2 => ?_)
    refine b_ge (tgt := 15) hx hb dX11_onSheet_8 (by decide) (fun c8 => ?_) (fun c8 => ?_)
    · refine lv_iconst (v := 0) hx hb dX11_onSheet_15 (by decide) (ti_c 0 (by decide) fun z3 hz3 => ?_)
      exact r_iret C hw hr hlk (nar_b (by omega)) (Nat.le_of_ble_eq_true rfl) (Nat.le_of_ble_eq_true rfl) dX11_onSheet_16 ⟨rfl, rfl, rfl, rfl, hsz, _, rfl, by omega⟩
    · refine lv_iconst (v := 1) hx hb dX11_onSheet_11 (by decide) (ti_c 1 (by decide) fun z4 hz4 => ?_)
      refine lv_goto (tgt := 16) hx hb dX11_onSheet_12 (by decide) ?_
      exact r_iret C hw hr hlk (nar_b (by omega)) (Nat.le_of_ble_eq_true rfl) (Nat.le_of_ble_eq_true rfl) dX11_onSheet_16 ⟨rfl, rfl, rfl, rfl, hsz, _, rfl, by omega⟩

set_option maxHeartbeats 4000000 in
set_option maxRecDepth 100000 in
theorem t_X6_at (l : Launch) (B : Nat) (D : va_G) (cA : Nat → ClassId) (kd : sK) (ig : sI) (rg : sR) (lg : sG) (sz : Nat) (x : Int32) (F : FS B kd ig rg) : MC l B D cA yX6_at cX6_at 2 (some (.object "SheetDoctor$Cell")) (rL 1 0 0) [.ref (B + 9), .int x] kd ig rg lg sz (Pu kd ig rg lg sz (fun r => r = some (.ref (B + 10)))) := by
  refine MC.of (own := RX6) (by decide +kernel) rfl (Nat.le_of_ble_eq_true rfl) ?_
  intro p e s m args below meth c ls C hr hlk hnm hw hsz hl
  have hx := C.1.1
  have hb := C.1.2.1
  have hown := C.1.2.2.2.1
  have hts := C.1.2.2.2.2
  have hl : lv_has ls 2 [(0, .ref (B + 9)), (1, .int x)] := hl
  have Fs := F
  obtain ⟨hsh, hrs, hce, hbf, hbi, hsi, hke⟩ := F
  refine lv_iload_n hx hb dX6_at_0 rfl (lv_at hl 1 rfl) ?_
  refine r_callN (As := [.int x]) (rest := []) C hw (t_X11_onSheet l B D cA kd ig rg lg _ x) sn_X6_42 rfl hl.1 rfl (Nat.le_of_ble_eq_true rfl) ⟨Nat.le_of_ble_eq_true rfl, Nat.le_of_ble_eq_true rfl⟩ ⟨Nat.le_of_ble_eq_true rfl, Nat.le_of_ble_eq_true rfl⟩ dX6_at_1 (fun r6 kd2 ig3 rg4 lg5 H locs hw hH hp7 => ?_)
  obtain ⟨rfl, rfl, rfl, rfl, hzz1, z1, rfl, hz1⟩ := hp7
  have hsz := hzz1.trans hsz
  refine z_eq (tgt := 16) hx hb dX6_at_4 (by decide) (fun c4 => ?_) (fun c4 => ?_)
  · refine lv_aload_n hx hb dX6_at_16 rfl (lv_at hl 0 rfl) ?_
    refine r_get C hw (hsh 9 _ rfl) fl_X6_14 (oV_r rfl (hrs (9, 0, 10) (by decide))) dX6_at_17 ?_
    exact r_aret C hw hr hlk (Or.inr ⟨_, rfl⟩) (Nat.le_of_ble_eq_true rfl) (Nat.le_of_ble_eq_true rfl) dX6_at_20 ⟨rfl, rfl, rfl, rfl, hsz, rfl⟩
  · refine lv_aload_n hx hb dX6_at_7 rfl (lv_at hl 0 rfl) ?_
    refine r_get C hw (hsh 9 _ rfl) fl_X6_20 (oV_r rfl (hrs (9, 1, 11) (by decide))) dX6_at_8 ?_
    refine lv_iload_n hx hb dX6_at_11 rfl (lv_at hl 1 rfl) ?_
    refine r_aald C hw (hsh 11 _ rfl) (by omega) (by omega) (by rw [hce _ (by omega)]) dX6_at_12 ?_
    refine lv_goto (tgt := 20) hx hb dX6_at_13 (by decide) ?_
    exact r_aret C hw hr hlk (Or.inr ⟨_, rfl⟩) (Nat.le_of_ble_eq_true rfl) (Nat.le_of_ble_eq_true rfl) dX6_at_20 ⟨rfl, rfl, rfl, rfl, hsz, rfl⟩

set_option maxHeartbeats 4000000 in
set_option maxRecDepth 100000 in
theorem t_X6_kindAt (l : Launch) (B : Nat) (D : va_G) (cA : Nat → ClassId) (kd : sK) (ig : sI) (rg : sR) (lg : sG) (sz : Nat) (x : Int32) (F : FS B kd ig rg) : MC l B D cA yX6_kindAt cX6_kindAt 2 (some .int) (rL 1 0 0) [.ref (B + 9), .int x] kd ig rg lg sz (Pu kd ig rg lg sz (fun r => ∃ z : Int32, r = some (.int z) ∧ z.toInt = 0)) := by
  refine MC.of (own := RX6) (by decide +kernel) rfl (Nat.le_of_ble_eq_true rfl) ?_
  intro p e s m args below meth c ls C hr hlk hnm hw hsz hl
  have hx := C.1.1
  have hb := C.1.2.1
  have hown := C.1.2.2.2.1
  have hts := C.1.2.2.2.2
  have hl : lv_has ls 2 [(0, .ref (B + 9)), (1, .int x)] := hl
  have Fs := F
  obtain ⟨hsh, hrs, hce, hbf, hbi, hsi, hke⟩ := F
  refine lv_iload_n hx hb dX6_kindAt_0 rfl (lv_at hl 1 rfl) ?_
  refine r_callN (As := [.int x]) (rest := []) C hw (t_X11_onSheet l B D cA kd ig rg lg _ x) sn_X6_42 rfl hl.1 rfl (Nat.le_of_ble_eq_true rfl) ⟨Nat.le_of_ble_eq_true rfl, Nat.le_of_ble_eq_true rfl⟩ ⟨Nat.le_of_ble_eq_true rfl, Nat.le_of_ble_eq_true rfl⟩ dX6_kindAt_1 (fun r6 kd2 ig3 rg4 lg5 H locs hw hH hp7 => ?_)
  obtain ⟨rfl, rfl, rfl, rfl, hzz1, z1, rfl, hz1⟩ := hp7
  have hsz := hzz1.trans hsz
  refine z_eq (tgt := 19) hx hb dX6_kindAt_4 (by decide) (fun c4 => ?_) (fun c4 => ?_)
  · refine lv_iconst (v := 0) hx hb dX6_kindAt_19 (by decide) (ti_c 0 (by decide) fun z8 hz8 => ?_)
    exact r_iret C hw hr hlk rfl (Nat.le_of_ble_eq_true rfl) (Nat.le_of_ble_eq_true rfl) dX6_kindAt_20 ⟨rfl, rfl, rfl, rfl, hsz, _, rfl, by omega⟩
  · refine lv_aload_n hx hb dX6_kindAt_7 rfl (lv_at hl 0 rfl) ?_
    refine r_get C hw (hsh 9 _ rfl) fl_X6_20 (oV_r rfl (hrs (9, 1, 11) (by decide))) dX6_kindAt_8 ?_
    refine lv_iload_n hx hb dX6_kindAt_11 rfl (lv_at hl 1 rfl) ?_
    refine r_aald C hw (hsh 11 _ rfl) (by omega) (by omega) (by rw [hce _ (by omega)]) dX6_kindAt_12 ?_
    refine r_get C hw (hsh 10 _ rfl) fl_X6_46 (oV_i rfl) dX6_kindAt_13 (ti_c (ig (B + 10) 0).toInt rfl fun z9 hz9 => ?_)
    have k10 : (ig (B + 10) (0)).toInt = 0 := z0 (Fs.bi (0))
    refine lv_goto (tgt := 20) hx hb dX6_kindAt_16 (by decide) ?_
    exact r_iret C hw hr hlk rfl (Nat.le_of_ble_eq_true rfl) (Nat.le_of_ble_eq_true rfl) dX6_kindAt_20 ⟨rfl, rfl, rfl, rfl, hsz, _, rfl, by omega⟩

set_option maxHeartbeats 4000000 in
set_option maxRecDepth 100000 in
theorem t_X6_formulaAt (l : Launch) (B : Nat) (D : va_G) (cA : Nat → ClassId) (kd : sK) (ig : sI) (rg : sR) (lg : sG) (sz : Nat) (x : Int32) (F : FS B kd ig rg) : MC l B D cA yX6_formulaAt cX6_formulaAt 2 (some (.object "SheetDoctor$Formula")) (rL 1 0 0) [.ref (B + 9), .int x] kd ig rg lg sz (Pu kd ig rg lg sz (fun r => r = some .null)) := by
  refine MC.of (own := RX6) (by decide +kernel) rfl (Nat.le_of_ble_eq_true rfl) ?_
  intro p e s m args below meth c ls C hr hlk hnm hw hsz hl
  have hx := C.1.1
  have hb := C.1.2.1
  have hown := C.1.2.2.2.1
  have hts := C.1.2.2.2.2
  have hl : lv_has ls 2 [(0, .ref (B + 9)), (1, .int x)] := hl
  have Fs := F
  obtain ⟨hsh, hrs, hce, hbf, hbi, hsi, hke⟩ := F
  refine lv_iload_n hx hb dX6_formulaAt_0 rfl (lv_at hl 1 rfl) ?_
  refine r_callN (As := [.int x]) (rest := []) C hw (t_X11_onSheet l B D cA kd ig rg lg _ x) sn_X6_42 rfl hl.1 rfl (Nat.le_of_ble_eq_true rfl) ⟨Nat.le_of_ble_eq_true rfl, Nat.le_of_ble_eq_true rfl⟩ ⟨Nat.le_of_ble_eq_true rfl, Nat.le_of_ble_eq_true rfl⟩ dX6_formulaAt_1 (fun r6 kd2 ig3 rg4 lg5 H locs hw hH hp7 => ?_)
  obtain ⟨rfl, rfl, rfl, rfl, hzz1, z1, rfl, hz1⟩ := hp7
  have hsz := hzz1.trans hsz
  refine z_eq (tgt := 19) hx hb dX6_formulaAt_4 (by decide) (fun c4 => ?_) (fun c4 => ?_)
  · refine lv_null hx hb dX6_formulaAt_19 ?_
    exact r_aret C hw hr hlk (Or.inl rfl) (Nat.le_of_ble_eq_true rfl) (Nat.le_of_ble_eq_true rfl) dX6_formulaAt_20 ⟨rfl, rfl, rfl, rfl, hsz, rfl⟩
  · refine lv_aload_n hx hb dX6_formulaAt_7 rfl (lv_at hl 0 rfl) ?_
    refine r_get C hw (hsh 9 _ rfl) fl_X6_20 (oV_r rfl (hrs (9, 1, 11) (by decide))) dX6_formulaAt_8 ?_
    refine lv_iload_n hx hb dX6_formulaAt_11 rfl (lv_at hl 1 rfl) ?_
    refine r_aald C hw (hsh 11 _ rfl) (by omega) (by omega) (by rw [hce _ (by omega)]) dX6_formulaAt_12 ?_
    refine r_get C hw (hsh 10 _ rfl) fl_X6_49 (oV_n rfl hbf) dX6_formulaAt_13 ?_
    refine lv_goto (tgt := 20) hx hb dX6_formulaAt_16 (by decide) ?_
    exact r_aret C hw hr hlk (Or.inl rfl) (Nat.le_of_ble_eq_true rfl) (Nat.le_of_ble_eq_true rfl) dX6_formulaAt_20 ⟨rfl, rfl, rfl, rfl, hsz, rfl⟩
end
section
theorem fill1 {ig : sI} {a : Nat} {i v w : Int32} (h : ∀ j : Nat, (j : Int) < i.toInt → ig a j = w) (hi : 0 ≤ i.toInt) (hv : v = w) : ∀ j : Nat, (j : Int) < i.toInt + 1 → up2 ig a i.toInt.toNat v a j = w := by
  intro j hj
  by_cases e1 : j = i.toInt.toNat
  · subst e1; rw [up2_eq]; exact hv
  · rw [up2_j e1]; exact h j (by omega)
theorem fillk {ig : sI} {a n : Nat} {i v w : Int32} (h : ∀ j : Nat, j < n → ig a j = w) (hv : v = w) : ∀ j : Nat, j < n → up2 ig a i.toInt.toNat v a j = w := by
  intro j hj
  by_cases e1 : j = i.toInt.toNat
  · subst e1; rw [up2_eq]; exact hv
  · rw [up2_j e1]; exact h j hj
theorem eq0 {v : Int32} (h : v.toInt = 0) : v = 0 := i32_inj (h.trans rfl)
theorem eqm1 {v : Int32} (h : v.toInt = -1) : v = -1 := i32_inj (h.trans rfl)
theorem fill3 {ig : sI} {a : Nat} {n : Int} {i1 i2 i3 v1 v2 v3 w : Int32} (h : ∀ j : Nat, (j : Int) < n → ig a j = w) (h0 : 0 ≤ n) (e1 : i1.toInt = n) (e2 : i2.toInt = n + 1) (e3 : i3.toInt = n + 2) (q1 : v1 = w) (q2 : v2 = w) (q3 : v3 = w) : ∀ j : Nat, (j : Int) < n + 3 → up2 (up2 (up2 ig a i1.toInt.toNat v1) a i2.toInt.toNat v2) a i3.toInt.toNat v3 a j = w := by
  intro j hj
  by_cases c3 : j = i3.toInt.toNat
  · subst c3; rw [up2_eq]; exact q3
  · rw [up2_j c3]
    by_cases c2 : j = i2.toInt.toNat
    · subst c2; rw [up2_eq]; exact q2
    · rw [up2_j c2]
      by_cases c1 : j = i1.toInt.toNat
      · subst c1; rw [up2_eq]; exact q1
      · rw [up2_j c1]; exact h j (by omega)
theorem Off.tr {α : Type} {B lo hi a b c d : Nat} {f g h : Nat → Nat → α} (h1 : Off B a b f g) (h2 : Off B c d g h) (e1 : lo ≤ a ∧ b ≤ hi) (e2 : lo ≤ c ∧ d ≤ hi) : Off B lo hi f h := fun x j q => (h1 x j (by omega)).trans (h2 x j (by omega))
theorem Off.rf {α : Type} {B lo hi : Nat} {f : Nat → Nat → α} : Off B lo hi f f := fun _ _ _ => rfl
theorem Off.wd {α : Type} {B lo hi a b : Nat} {f g : Nat → Nat → α} (h1 : Off B a b f g) (e1 : lo ≤ a ∧ b ≤ hi) : Off B lo hi f g := fun x j q => h1 x j (by omega)

set_option maxHeartbeats 4000000 in
set_option maxRecDepth 100000 in
theorem t_X2_settle (l : Launch) (B : Nat) (D : va_G) (cA : Nat → ClassId) (kd : sK) (ig : sI) (rg : sR) (lg : sG) (sz : Nat) (F : FS B kd ig rg) (hv : ig (B + 29) 4 = -1) : MC l B D cA yX2_settle cX2_settle 3 none (rL 2 0 0) [.ref (B + 29)] kd ig rg lg sz (fun r kd' ig' rg' lg' n => kd = kd' ∧ rg = rg' ∧ lg = lg' ∧ n = sz ∧ (r = none) ∧ Off B 29 32 ig' ig ∧ (∀ j : Nat, j < 288 → ig' (B + 30) j = -1) ∧ ig' (B + 29) 3 = 0) := by
  refine MC.of (own := RX2) (by decide +kernel) rfl (Nat.le_of_ble_eq_true rfl) ?_
  intro p e s m args below meth c ls C hr hlk hnm hw hsz hl
  have hx := C.1.1
  have hb := C.1.2.1
  have hown := C.1.2.2.2.1
  have hts := C.1.2.2.2.2
  have hl : lv_has ls 3 [(0, .ref (B + 29))] := hl
  have Fs := F
  obtain ⟨hsh, hrs, hce, hbf, hbi, hsi, hke⟩ := F
  have oig : Off B 29 32 ig ig := Off.rf
  refine lv_aload_n hx hb dX2_settle_0 rfl (lv_at hl 0 rfl) ?_
  refine r_get C hw (hsh 29 _ rfl) fl_X2_22 (oV_i rfl) dX2_settle_1 (ti_c (ig (B + 29) 4).toInt rfl fun z1 hz1 => ?_)
  have k2 : (ig (B + 29) (4)).toInt = -1 := by exact zm1 (hv)
  refine lv_aload_n hx hb dX2_settle_4 rfl (lv_at hl 0 rfl) ?_
  refine r_get C hw (hsh 29 _ rfl) fl_X2_9 (oV_r rfl (hrs (29, 0, 9) (by decide))) dX2_settle_5 ?_
  refine r_get C hw (hsh 9 _ rfl) fl_X2_26 (oV_i rfl) dX2_settle_8 (ti_c (ig (B + 9) 6).toInt rfl fun z3 hz3 => ?_)
  have k4 : (ig (B + 9) (6)).toInt = 0 := z0 (Fs.si (6))
  refine b_ne (tgt := 15) hx hb dX2_settle_11 (by decide) (fun c11 => ?_) (fun c11 => ?_)
  · refine lv_aload_n hx hb dX2_settle_15 rfl (lv_at hl 0 rfl) ?_
    refine lv_aload_n hx hb dX2_settle_16 rfl (lv_at hl 0 rfl) ?_
    refine r_get C hw (hsh 29 _ rfl) fl_X2_9 (oV_r rfl (hrs (29, 0, 9) (by decide))) dX2_settle_17 ?_
    refine r_get C hw (hsh 9 _ rfl) fl_X2_26 (oV_i rfl) dX2_settle_20 (ti_c (ig (B + 9) 6).toInt rfl fun z5 hz5 => ?_)
    have k6 : (ig (B + 9) (6)).toInt = 0 := z0 (Fs.si (6))
    refine r_puti C hw (hsh 29 _ rfl) fl_X2_22 rfl rfl rfl dX2_settle_23 (fun H locs hH hw => ?_)
    obtain ⟨ig7, eig7⟩ : ∃ f, f = up2 ig (B + 29) 4 z5 := ⟨_, rfl⟩
    rw [← eig7] at hw
    have hsz := hH.trans hsz
    have oig : Off B 29 32 ig7 ig := fun a j h => by rw [eig7]; exact (up2_a (by omega)).trans (oig a j h)
    refine lv_aload_n hx hb dX2_settle_26 rfl (lv_at hl 0 rfl) ?_
    refine lv_iconst (v := 0) hx hb dX2_settle_27 (by decide) (ti_c 0 (by decide) fun z8 hz8 => ?_)
    refine r_puti C hw (hsh 29 _ rfl) fl_X2_29 rfl rfl rfl dX2_settle_28 (fun H locs hH hw => ?_)
    obtain ⟨ig9, eig9⟩ : ∃ f, f = up2 ig7 (B + 29) 3 z8 := ⟨_, rfl⟩
    rw [← eig9] at hw
    have hsz := hH.trans hsz
    have oig : Off B 29 32 ig9 ig := fun a j h => by rw [eig9]; exact (up2_a (by omega)).trans (oig a j h)
    refine lv_iconst (v := 0) hx hb dX2_settle_31 (by decide) (ti_c 0 (by decide) fun z10 hz10 => ?_)
    refine lv_istore_n (lv' := [(1, .int z10), (0, .ref (B + 29))]) hx hb dX2_settle_32 rfl hl (by decide) rfl (fun ls hl => ?_)
    have L33 : ∀ (n : Nat) (ls : Array Slot) (H : Heap) (locs : List Loc) (ig12 : sI) (v11 : Int32), lv_has ls 3 [(1, .int v11), (0, .ref (B + 29))] → WD B D cA s.heap kd ig12 rg lg H locs → H.size = sz → (0 ≤ v11.toInt) → (v11.toInt ≤ 288) → (∀ j : Nat, (j : Int) < v11.toInt → ig12 (B + 30) j = -1) → (ig12 (B + 29) 3 = 0) → (Off B 29 32 ig12 ig) → 288 - v11.toInt < (n : Int) → W p l e (rL 2 0 0) s m args below meth c H locs 0 0 (MQ below (QcW B D cA (fun r kd' ig' rg' lg' n => kd = kd' ∧ rg = rg' ∧ lg = lg' ∧ n = sz ∧ (r = none) ∧ Off B 29 32 ig' ig ∧ (∀ j : Nat, j < 288 → ig' (B + 30) j = -1) ∧ ig' (B + 29) 3 = 0)) args s 0 0 (fun q => B ≤ q)) (F0 m 33 ls []) := by
      intro n
      induction n with
      | zero => intro ls H locs ig12 v11 hl hw hsz g33_0 g33_1 g33_2 g33_3 g33_4 hmu; exact absurd hmu (by omega)
      | succ n ih =>
        intro ls H locs ig12 v11 hl hw hsz g33_0 g33_1 g33_2 g33_3 g33_4 hmu
        have oig := g33_4
        refine lv_iload_n hx hb dX2_settle_33 rfl (lv_at hl 0 rfl) ?_
        refine lv_sipush (v := 288) hx hb dX2_settle_34 (by decide) (ti_c 288 (by decide) fun z13 hz13 => ?_)
        refine b_ge (tgt := 75) hx hb dX2_settle_37 (by decide) (fun c37 => ?_) (fun c37 => ?_)
        · exact r_vret C hw hr hlk (Nat.le_of_ble_eq_true rfl) (Nat.le_of_ble_eq_true rfl) dX2_settle_75 ⟨rfl, rfl, rfl, hsz, rfl, oig, fun j hj => g33_2 j (by omega), g33_3⟩
        · refine lv_aload_n hx hb dX2_settle_40 rfl (lv_at hl 1 rfl) ?_
          refine r_get C hw (hsh 29 _ rfl) fl_X2_9 (oV_r rfl (hrs (29, 0, 9) (by decide))) dX2_settle_41 ?_
          refine lv_iload_n hx hb dX2_settle_44 rfl (lv_at hl 0 rfl) ?_
          refine r_callV (As := [.int v11]) (rest := []) C hw (t_X6_formulaAt l B D cA kd ig12 rg lg _ v11 (FS.off Fs oig (by decide))) sv_X2_32 (hsh 9 _ rfl) rfl hl.1 rfl (Nat.le_of_ble_eq_true rfl) ⟨Nat.le_of_ble_eq_true rfl, Nat.le_of_ble_eq_true rfl⟩ ⟨Nat.le_of_ble_eq_true rfl, Nat.le_of_ble_eq_true rfl⟩ dX2_settle_45 (fun r18 kd14 ig15 rg16 lg17 H locs hw hH hp19 => ?_)
          obtain ⟨rfl, rfl, rfl, rfl, hzhp19, rfl⟩ := hp19
          have hsz := hzhp19.trans hsz
          refine lv_astore_nN (lv' := [(2, .null), (1, .int v11), (0, .ref (B + 29))]) hx hb dX2_settle_48 rfl hl (by decide) rfl (fun ls hl => ?_)
          refine lv_aload_n hx hb dX2_settle_49 rfl (lv_at hl 2 rfl) ?_
          refine r_get C hw (hsh 29 _ rfl) fl_X2_15 (oV_r rfl (hrs (29, 1, 30) (by decide))) dX2_settle_50 ?_
          refine lv_iload_n hx hb dX2_settle_53 rfl (lv_at hl 1 rfl) ?_
          refine lv_aload_nN hx hb dX2_settle_54 rfl (lv_at hl 0 rfl) ?_
          refine lv_ifnonnullN hx hb dX2_settle_55 ?_
          refine lv_iconst (v := (-1)) hx hb dX2_settle_58 (by decide) (ti_c (-1) (by decide) fun z20 hz20 => ?_)
          refine lv_goto (tgt := 68) hx hb dX2_settle_59 (by decide) ?_
          refine r_iast C hw (hsh 30 _ rfl) (by omega) (by omega) dX2_settle_68 (fun H locs hH hw => ?_)
          obtain ⟨ig21, eig21⟩ : ∃ f, f = up2 ig12 (B + 30) v11.toInt.toNat z20 := ⟨_, rfl⟩
          rw [← eig21] at hw
          have hsz := hH.trans hsz
          have oig : Off B 29 32 ig21 ig := fun a j h => by rw [eig21]; exact (up2_a (by omega)).trans (oig a j h)
          refine ti_inc hx hb dX2_settle_69 hl (k := 1) rfl (by decide) (by decide) (by omega) (fun z22 hz22 ls hl => ?_)
          have hl : lv_has ls 3 [(1, .int z22), (2, .null), (0, .ref (B + 29))] := hl
          refine lv_goto (tgt := 33) hx hb dX2_settle_72 (by decide) ?_
          exact ih ls H locs ig21 z22 (lv_sub hl [0, 2] rfl) hw hsz (by omega) (by omega) (by intro j hj; rw [eig21]; exact fill1 g33_2 (by omega) (i32_inj hz20) j (by omega)) (by rw [eig21, up2_a (by omega)]; exact g33_3) oig (by omega)
    exact L33 ((288 - z10.toInt) + 1).toNat ls H locs ig9 z10 (lv_sub hl [0, 1] rfl) hw hsz (by omega) (by omega) (fun j hj => absurd hj (by omega)) (by rw [eig9, up2_eq]; exact i32_inj hz8) oig (by omega)
  · exact absurd c11 (by omega)

set_option maxHeartbeats 4000000 in
set_option maxRecDepth 100000 in
theorem t_X2_familyAt (l : Launch) (B : Nat) (D : va_G) (cA : Nat → ClassId) (kd : sK) (ig : sI) (rg : sR) (lg : sG) (sz : Nat) (x : Int32) (hsh : Sh B kd) (hrs : Rs B rg) (hx0 : (0 ≤ x.toInt ∧ x.toInt < 288)) (hf : ∀ j : Nat, j < 288 → ig (B + 30) j = -1) : MC l B D cA yX2_familyAt cX2_familyAt 2 (some .int) (rL 1 0 0) [.ref (B + 29), .int x] kd ig rg lg sz (Pu kd ig rg lg sz (fun r => ∃ z : Int32, r = some (.int z) ∧ z.toInt = -1)) := by
  refine MC.of (own := RX2) (by decide +kernel) rfl (Nat.le_of_ble_eq_true rfl) ?_
  intro p e s m args below meth c ls C hr hlk hnm hw hsz hl
  have hx := C.1.1
  have hb := C.1.2.1
  have hown := C.1.2.2.2.1
  have hts := C.1.2.2.2.2
  have hl : lv_has ls 2 [(0, .ref (B + 29)), (1, .int x)] := hl
  refine lv_iload_n hx hb dX2_familyAt_0 rfl (lv_at hl 1 rfl) ?_
  refine r_callN (As := [.int x]) (rest := []) C hw (t_X11_onSheet l B D cA kd ig rg lg _ x) sn_X2_46 rfl hl.1 rfl (Nat.le_of_ble_eq_true rfl) ⟨Nat.le_of_ble_eq_true rfl, Nat.le_of_ble_eq_true rfl⟩ ⟨Nat.le_of_ble_eq_true rfl, Nat.le_of_ble_eq_true rfl⟩ dX2_familyAt_1 (fun r6 kd2 ig3 rg4 lg5 H locs hw hH hp7 => ?_)
  obtain ⟨rfl, rfl, rfl, rfl, hzz1, z1, rfl, hz1⟩ := hp7
  have hsz := hzz1.trans hsz
  refine z_eq (tgt := 16) hx hb dX2_familyAt_4 (by decide) (fun c4 => ?_) (fun c4 => ?_)
  · refine lv_iconst (v := (-1)) hx hb dX2_familyAt_16 (by decide) (ti_c (-1) (by decide) fun z8 hz8 => ?_)
    exact r_iret C hw hr hlk rfl (Nat.le_of_ble_eq_true rfl) (Nat.le_of_ble_eq_true rfl) dX2_familyAt_17 ⟨rfl, rfl, rfl, rfl, hsz, _, rfl, by omega⟩
  · refine lv_aload_n hx hb dX2_familyAt_7 rfl (lv_at hl 0 rfl) ?_
    refine r_get C hw (hsh 29 _ rfl) fl_X2_15 (oV_r rfl (hrs (29, 1, 30) (by decide))) dX2_familyAt_8 ?_
    refine lv_iload_n hx hb dX2_familyAt_11 rfl (lv_at hl 1 rfl) ?_
    refine r_iald C hw (hsh 30 _ rfl) (by omega) (by omega) dX2_familyAt_12 (ti_c (ig (B + 30) x.toInt.toNat).toInt rfl fun z9 hz9 => ?_)
    have k := zm1 (hf (x.toInt.toNat) (by omega))
    refine lv_goto (tgt := 17) hx hb dX2_familyAt_13 (by decide) ?_
    exact r_iret C hw hr hlk rfl (Nat.le_of_ble_eq_true rfl) (Nat.le_of_ble_eq_true rfl) dX2_familyAt_17 ⟨rfl, rfl, rfl, rfl, hsz, _, rfl, by omega⟩

set_option maxHeartbeats 4000000 in
set_option maxRecDepth 100000 in
theorem t_X2_neighbourToCopy (l : Launch) (B : Nat) (D : va_G) (cA : Nat → ClassId) (kd : sK) (ig : sI) (rg : sR) (lg : sG) (sz : Nat) (x : Int32) (F : FS B kd ig rg) : MC l B D cA yX2_neighbourToCopy cX2_neighbourToCopy 3 (some .int) (rL 2 0 0) [.ref (B + 29), .int x] kd ig rg lg sz (Pu kd ig rg lg sz (fun r => ∃ z : Int32, r = some (.int z) ∧ z.toInt = -1)) := by
  refine MC.of (own := RX2) (by decide +kernel) rfl (Nat.le_of_ble_eq_true rfl) ?_
  intro p e s m args below meth c ls C hr hlk hnm hw hsz hl
  have hx := C.1.1
  have hb := C.1.2.1
  have hown := C.1.2.2.2.1
  have hts := C.1.2.2.2.2
  have hl : lv_has ls 3 [(0, .ref (B + 29)), (1, .int x)] := hl
  have Fs := F
  obtain ⟨hsh, hrs, hce, hbf, hbi, hsi, hke⟩ := F
  refine lv_aload_n hx hb dX2_neighbourToCopy_0 rfl (lv_at hl 0 rfl) ?_
  refine r_get C hw (hsh 29 _ rfl) fl_X2_9 (oV_r rfl (hrs (29, 0, 9) (by decide))) dX2_neighbourToCopy_1 ?_
  refine lv_iload_n hx hb dX2_neighbourToCopy_4 rfl (lv_at hl 1 rfl) ?_
  refine r_callV (As := [.int x]) (rest := []) C hw (t_X6_kindAt l B D cA kd ig rg lg _ x Fs) sv_X2_50 (hsh 9 _ rfl) rfl hl.1 rfl (Nat.le_of_ble_eq_true rfl) ⟨Nat.le_of_ble_eq_true rfl, Nat.le_of_ble_eq_true rfl⟩ ⟨Nat.le_of_ble_eq_true rfl, Nat.le_of_ble_eq_true rfl⟩ dX2_neighbourToCopy_5 (fun r6 kd2 ig3 rg4 lg5 H locs hw hH hp7 => ?_)
  obtain ⟨rfl, rfl, rfl, rfl, hzz1, z1, rfl, hz1⟩ := hp7
  have hsz := hzz1.trans hsz
  refine z_ne (tgt := 13) hx hb dX2_neighbourToCopy_8 (by decide) (fun c8 => ?_) (fun c8 => ?_)
  · exact absurd c8 (by omega)
  · refine lv_iconst (v := (-1)) hx hb dX2_neighbourToCopy_11 (by decide) (ti_c (-1) (by decide) fun z8 hz8 => ?_)
    exact r_iret C hw hr hlk rfl (Nat.le_of_ble_eq_true rfl) (Nat.le_of_ble_eq_true rfl) dX2_neighbourToCopy_12 ⟨rfl, rfl, rfl, rfl, hsz, _, rfl, by omega⟩

set_option maxHeartbeats 4000000 in
set_option maxRecDepth 100000 in
theorem t_X5_orderSize (l : Launch) (B : Nat) (D : va_G) (cA : Nat → ClassId) (kd : sK) (ig : sI) (rg : sR) (lg : sG) (sz : Nat) (hsh : Sh B kd) (hfo : ig (B + 15) 9 = 0) : MC l B D cA yX5_orderSize cX5_orderSize 1 (some .int) (rL 0 0 0) [.ref (B + 15)] kd ig rg lg sz (Pu kd ig rg lg sz (fun r => ∃ z : Int32, r = some (.int z) ∧ z.toInt = 0)) := by
  refine MC.of (own := RX5) (by decide +kernel) rfl (Nat.le_of_ble_eq_true rfl) ?_
  intro p e s m args below meth c ls C hr hlk hnm hw hsz hl
  have hx := C.1.1
  have hb := C.1.2.1
  have hown := C.1.2.2.2.1
  have hts := C.1.2.2.2.2
  have hl : lv_has ls 1 [(0, .ref (B + 15))] := hl
  refine lv_aload_n hx hb dX5_orderSize_0 rfl (lv_at hl 0 rfl) ?_
  refine r_get C hw (hsh 15 _ rfl) fl_X5_55 (oV_i rfl) dX5_orderSize_1 (ti_c (ig (B + 15) 9).toInt rfl fun z1 hz1 => ?_)
  have k2 : (ig (B + 15) (9)).toInt = 0 := by exact z0 (hfo)
  exact r_iret C hw hr hlk rfl (Nat.le_of_ble_eq_true rfl) (Nat.le_of_ble_eq_true rfl) dX5_orderSize_4 ⟨rfl, rfl, rfl, rfl, hsz, _, rfl, by omega⟩

set_option maxHeartbeats 4000000 in
set_option maxRecDepth 100000 in
theorem t_X5_forgetReads (l : Launch) (B : Nat) (D : va_G) (cA : Nat → ClassId) (kd : sK) (ig : sI) (rg : sR) (lg : sG) (sz : Nat) (hsh : Sh B kd) (hrs : Rs B rg) (hfc : ig (B + 15) 2 = 0) : MC l B D cA yX5_forgetReads cX5_forgetReads 3 none (rL 0 0 0) [.ref (B + 15)] kd ig rg lg sz (fun r kd' ig' rg' lg' n => kd = kd' ∧ rg = rg' ∧ Off B 17 18 lg' lg ∧ n = sz ∧ (r = none) ∧ Off B 15 16 ig' ig ∧ ig' (B + 15) 2 = 0) := by
  refine MC.of (own := RX5) (by decide +kernel) rfl (Nat.le_of_ble_eq_true rfl) ?_
  intro p e s m args below meth c ls C hr hlk hnm hw hsz hl
  have hx := C.1.1
  have hb := C.1.2.1
  have hown := C.1.2.2.2.1
  have hts := C.1.2.2.2.2
  have hl : lv_has ls 3 [(0, .ref (B + 15))] := hl
  have oig : Off B 15 16 ig ig := Off.rf
  have olg : Off B 17 18 lg lg := Off.rf
  refine lv_iconst (v := 0) hx hb dX5_forgetReads_0 (by decide) (ti_c 0 (by decide) fun z1 hz1 => ?_)
  refine lv_istore_n (lv' := [(1, .int z1), (0, .ref (B + 15))]) hx hb dX5_forgetReads_1 rfl hl (by decide) rfl (fun ls hl => ?_)
  refine lv_iload_n hx hb dX5_forgetReads_2 rfl (lv_at hl 0 rfl) ?_
  refine lv_aload_n hx hb dX5_forgetReads_3 rfl (lv_at hl 1 rfl) ?_
  refine r_get C hw (hsh 15 _ rfl) fl_X5_58 (oV_i rfl) dX5_forgetReads_4 (ti_c (ig (B + 15) 2).toInt rfl fun z2 hz2 => ?_)
  have k3 : (ig (B + 15) (2)).toInt = 0 := by exact z0 (hfc)
  refine b_ge (tgt := 45) hx hb dX5_forgetReads_7 (by decide) (fun c7 => ?_) (fun c7 => ?_)
  · refine lv_iconst (v := 0) hx hb dX5_forgetReads_45 (by decide) (ti_c 0 (by decide) fun z4 hz4 => ?_)
    refine lv_istore_n (lv' := [(1, .int z4), (0, .ref (B + 15))]) hx hb dX5_forgetReads_46 rfl hl (by decide) rfl (fun ls hl => ?_)
    have L47 : ∀ (n : Nat) (ls : Array Slot) (H : Heap) (locs : List Loc) (lg6 : sG) (v5 : Int32), lv_has ls 3 [(1, .int v5), (0, .ref (B + 15))] → WD B D cA s.heap kd ig rg lg6 H locs → H.size = sz → (0 ≤ v5.toInt) → (v5.toInt ≤ 5) → (Off B 17 18 lg6 lg) → 5 - v5.toInt < (n : Int) → W p l e (rL 0 0 0) s m args below meth c H locs 0 0 (MQ below (QcW B D cA (fun r kd' ig' rg' lg' n => kd = kd' ∧ rg = rg' ∧ Off B 17 18 lg' lg ∧ n = sz ∧ (r = none) ∧ Off B 15 16 ig' ig ∧ ig' (B + 15) 2 = 0)) args s 0 0 (fun q => B ≤ q)) (F0 m 47 ls []) := by
      intro n
      induction n with
      | zero => intro ls H locs lg6 v5 hl hw hsz g47_0 g47_1 g47_2 hmu; exact absurd hmu (by omega)
      | succ n ih =>
        intro ls H locs lg6 v5 hl hw hsz g47_0 g47_1 g47_2 hmu
        have olg := g47_2
        refine lv_iload_n hx hb dX5_forgetReads_47 rfl (lv_at hl 0 rfl) ?_
        refine lv_iconst (v := 5) hx hb dX5_forgetReads_48 (by decide) (ti_c 5 (by decide) fun z7 hz7 => ?_)
        refine b_ge (tgt := 65) hx hb dX5_forgetReads_49 (by decide) (fun c49 => ?_) (fun c49 => ?_)
        · refine lv_aload_n hx hb dX5_forgetReads_65 rfl (lv_at hl 1 rfl) ?_
          refine lv_iconst (v := 0) hx hb dX5_forgetReads_66 (by decide) (ti_c 0 (by decide) fun z8 hz8 => ?_)
          refine r_puti C hw (hsh 15 _ rfl) fl_X5_58 rfl rfl rfl dX5_forgetReads_67 (fun H locs hH hw => ?_)
          obtain ⟨ig9, eig9⟩ : ∃ f, f = up2 ig (B + 15) 2 z8 := ⟨_, rfl⟩
          rw [← eig9] at hw
          have hsz := hH.trans hsz
          have oig : Off B 15 16 ig9 ig := fun a j h => by rw [eig9]; exact (up2_a (by omega)).trans (oig a j h)
          exact r_vret C hw hr hlk (Nat.le_of_ble_eq_true rfl) (Nat.le_of_ble_eq_true rfl) dX5_forgetReads_70 ⟨rfl, rfl, olg, hsz, rfl, oig, by rw [eig9, up2_eq]; exact i32_inj hz8⟩
        · refine lv_aload_n hx hb dX5_forgetReads_52 rfl (lv_at hl 1 rfl) ?_
          refine r_get C hw (hsh 15 _ rfl) fl_X5_19 (oV_r rfl (hrs (15, 3, 17) (by decide))) dX5_forgetReads_53 ?_
          refine lv_iload_n hx hb dX5_forgetReads_56 rfl (lv_at hl 0 rfl) ?_
          refine lv_lconst (v := 0) hx hb dX5_forgetReads_57 (by decide) (lv_topl fun x10 hx10 => ?_)
          refine r_last C hw (hsh 17 _ rfl) (by omega) (by omega) dX5_forgetReads_58 (fun H locs hH hw => ?_)
          obtain ⟨lg11, elg11⟩ : ∃ f, f = up2 lg6 (B + 17) v5.toInt.toNat x10 := ⟨_, rfl⟩
          rw [← elg11] at hw
          have hsz := hH.trans hsz
          have olg : Off B 17 18 lg11 lg := fun a j h => by rw [elg11]; exact (up2_a (by omega)).trans (olg a j h)
          refine ti_inc hx hb dX5_forgetReads_59 hl (k := 0) rfl (by decide) (by decide) (by omega) (fun z12 hz12 ls hl => ?_)
          have hl : lv_has ls 3 [(1, .int z12), (0, .ref (B + 15))] := hl
          refine lv_goto (tgt := 47) hx hb dX5_forgetReads_62 (by decide) ?_
          exact ih ls H locs lg11 z12 (lv_sub hl [0, 1] rfl) hw hsz (by omega) (by omega) olg (by omega)
    exact L47 ((5 - z4.toInt) + 1).toNat ls s.heap [] lg z4 (lv_sub hl [0, 1] rfl) hw hsz (by omega) (by omega) olg (by omega)
  · exact absurd c7 (by omega)

set_option maxHeartbeats 4000000 in
set_option maxRecDepth 100000 in
theorem t_X5_gatherReads (l : Launch) (B : Nat) (D : va_G) (cA : Nat → ClassId) (kd : sK) (ig : sI) (rg : sR) (lg : sG) (sz : Nat) (F : FS B kd ig rg) : MC l B D cA yX5_gatherReads cX5_gatherReads 3 none (rL 2 0 0) [.ref (B + 15)] kd ig rg lg sz (fun r kd' ig' rg' lg' n => kd = kd' ∧ rg = rg' ∧ lg = lg' ∧ n = sz ∧ (r = none) ∧ Off B 20 22 ig' ig) := by
  refine MC.of (own := RX5) (by decide +kernel) rfl (Nat.le_of_ble_eq_true rfl) ?_
  intro p e s m args below meth c ls C hr hlk hnm hw hsz hl
  have hx := C.1.1
  have hb := C.1.2.1
  have hown := C.1.2.2.2.1
  have hts := C.1.2.2.2.2
  have hl : lv_has ls 3 [(0, .ref (B + 15))] := hl
  have Fs := F
  obtain ⟨hsh, hrs, hce, hbf, hbi, hsi, hke⟩ := F
  have oig : Off B 20 22 ig ig := Off.rf
  refine lv_iconst (v := 0) hx hb dX5_gatherReads_0 (by decide) (ti_c 0 (by decide) fun z1 hz1 => ?_)
  refine lv_istore_n (lv' := [(1, .int z1), (0, .ref (B + 15))]) hx hb dX5_gatherReads_1 rfl hl (by decide) rfl (fun ls hl => ?_)
  have L2 : ∀ (n : Nat) (ls : Array Slot) (H : Heap) (locs : List Loc) (ig3 : sI) (v2 : Int32), lv_has ls 3 [(1, .int v2), (0, .ref (B + 15))] → WD B D cA s.heap kd ig3 rg lg H locs → H.size = sz → (0 ≤ v2.toInt) → (v2.toInt ≤ 288) → (Off B 20 22 ig3 ig) → 288 - v2.toInt < (n : Int) → W p l e (rL 2 0 0) s m args below meth c H locs 0 0 (MQ below (QcW B D cA (fun r kd' ig' rg' lg' n => kd = kd' ∧ rg = rg' ∧ lg = lg' ∧ n = sz ∧ (r = none) ∧ Off B 20 22 ig' ig)) args s 0 0 (fun q => B ≤ q)) (F0 m 2 ls []) := by
    intro n
    induction n with
    | zero => intro ls H locs ig3 v2 hl hw hsz g2_0 g2_1 g2_2 hmu; exact absurd hmu (by omega)
    | succ n ih =>
      intro ls H locs ig3 v2 hl hw hsz g2_0 g2_1 g2_2 hmu
      have oig := g2_2
      refine lv_iload_n hx hb dX5_gatherReads_2 rfl (lv_at hl 0 rfl) ?_
      refine lv_sipush (v := 288) hx hb dX5_gatherReads_3 (by decide) (ti_c 288 (by decide) fun z4 hz4 => ?_)
      refine b_ge (tgt := 87) hx hb dX5_gatherReads_6 (by decide) (fun c6 => ?_) (fun c6 => ?_)
      · exact r_vret C hw hr hlk (Nat.le_of_ble_eq_true rfl) (Nat.le_of_ble_eq_true rfl) dX5_gatherReads_87 ⟨rfl, rfl, rfl, hsz, rfl, oig⟩
      · refine lv_aload_n hx hb dX5_gatherReads_9 rfl (lv_at hl 1 rfl) ?_
        refine r_get C hw (hsh 15 _ rfl) fl_X5_29 (oV_r rfl (hrs (15, 6, 20) (by decide))) dX5_gatherReads_10 ?_
        refine lv_iload_n hx hb dX5_gatherReads_13 rfl (lv_at hl 0 rfl) ?_
        refine lv_iconst (v := 0) hx hb dX5_gatherReads_14 (by decide) (ti_c 0 (by decide) fun z5 hz5 => ?_)
        refine r_zast C hw (hsh 20 _ rfl) (by omega) (by omega) (nar_b (by omega)) dX5_gatherReads_15 (fun H locs hH hw => ?_)
        obtain ⟨ig6, eig6⟩ : ∃ f, f = up2 ig3 (B + 20) v2.toInt.toNat z5 := ⟨_, rfl⟩
        rw [← eig6] at hw
        have hsz := hH.trans hsz
        have oig : Off B 20 22 ig6 ig := fun a j h => by rw [eig6]; exact (up2_a (by omega)).trans (oig a j h)
        refine lv_aload_n hx hb dX5_gatherReads_16 rfl (lv_at hl 1 rfl) ?_
        refine r_get C hw (hsh 15 _ rfl) fl_X5_33 (oV_r rfl (hrs (15, 7, 21) (by decide))) dX5_gatherReads_17 ?_
        refine lv_iload_n hx hb dX5_gatherReads_20 rfl (lv_at hl 0 rfl) ?_
        refine lv_iconst (v := 0) hx hb dX5_gatherReads_21 (by decide) (ti_c 0 (by decide) fun z7 hz7 => ?_)
        refine r_iast C hw (hsh 21 _ rfl) (by omega) (by omega) dX5_gatherReads_22 (fun H locs hH hw => ?_)
        obtain ⟨ig8, eig8⟩ : ∃ f, f = up2 ig6 (B + 21) v2.toInt.toNat z7 := ⟨_, rfl⟩
        rw [← eig8] at hw
        have hsz := hH.trans hsz
        have oig : Off B 20 22 ig8 ig := fun a j h => by rw [eig8]; exact (up2_a (by omega)).trans (oig a j h)
        refine lv_aload_n hx hb dX5_gatherReads_23 rfl (lv_at hl 1 rfl) ?_
        refine r_get C hw (hsh 15 _ rfl) fl_X5_9 (oV_r rfl (hrs (15, 0, 9) (by decide))) dX5_gatherReads_24 ?_
        refine lv_iload_n hx hb dX5_gatherReads_27 rfl (lv_at hl 0 rfl) ?_
        refine r_callV (As := [.int v2]) (rest := []) C hw (t_X6_formulaAt l B D cA kd ig8 rg lg _ v2 (FS.off Fs oig (by decide))) sv_X5_89 (hsh 9 _ rfl) rfl hl.1 rfl (Nat.le_of_ble_eq_true rfl) ⟨Nat.le_of_ble_eq_true rfl, Nat.le_of_ble_eq_true rfl⟩ ⟨Nat.le_of_ble_eq_true rfl, Nat.le_of_ble_eq_true rfl⟩ dX5_gatherReads_28 (fun r13 kd9 ig10 rg11 lg12 H locs hw hH hp14 => ?_)
        obtain ⟨rfl, rfl, rfl, rfl, hzhp14, rfl⟩ := hp14
        have hsz := hzhp14.trans hsz
        refine lv_astore_nN (lv' := [(2, .null), (1, .int v2), (0, .ref (B + 15))]) hx hb dX5_gatherReads_31 rfl hl (by decide) rfl (fun ls hl => ?_)
        refine lv_aload_nN hx hb dX5_gatherReads_32 rfl (lv_at hl 0 rfl) ?_
        refine lv_ifnullN (tgt := 81) hx hb dX5_gatherReads_33 (by decide) ?_
        refine ti_inc hx hb dX5_gatherReads_81 hl (k := 1) rfl (by decide) (by decide) (by omega) (fun z15 hz15 ls hl => ?_)
        have hl : lv_has ls 3 [(1, .int z15), (2, .null), (0, .ref (B + 15))] := hl
        refine lv_goto (tgt := 2) hx hb dX5_gatherReads_84 (by decide) ?_
        exact ih ls H locs ig8 z15 (lv_sub hl [0, 2] rfl) hw hsz (by omega) (by omega) oig (by omega)
  exact L2 ((288 - z1.toInt) + 1).toNat ls s.heap [] ig z1 (lv_sub hl [0, 1] rfl) hw hsz (by omega) (by omega) oig (by omega)

set_option maxHeartbeats 4000000 in
set_option maxRecDepth 100000 in
theorem t_X5_release (l : Launch) (B : Nat) (D : va_G) (cA : Nat → ClassId) (kd : sK) (ig : sI) (rg : sR) (lg : sG) (sz : Nat) (x : Int32) (hsh : Sh B kd) (hx0 : x.toInt = 0) (hfo : ig (B + 15) 9 = 0) : MC l B D cA yX5_release cX5_release 5 none (rL 0 0 0) [.ref (B + 15), .int x] kd ig rg lg sz (Pu kd ig rg lg sz (fun r => r = none)) := by
  refine MC.of (own := RX5) (by decide +kernel) rfl (Nat.le_of_ble_eq_true rfl) ?_
  intro p e s m args below meth c ls C hr hlk hnm hw hsz hl
  have hx := C.1.1
  have hb := C.1.2.1
  have hown := C.1.2.2.2.1
  have hts := C.1.2.2.2.2
  have hl : lv_has ls 5 [(0, .ref (B + 15)), (1, .int x)] := hl
  refine lv_iload_n hx hb dX5_release_0 rfl (lv_at hl 1 rfl) ?_
  refine lv_istore_n (lv' := [(2, .int x), (0, .ref (B + 15)), (1, .int x)]) hx hb dX5_release_1 rfl hl (by decide) rfl (fun ls hl => ?_)
  refine lv_iload_n hx hb dX5_release_2 rfl (lv_at hl 0 rfl) ?_
  refine lv_aload_n hx hb dX5_release_3 rfl (lv_at hl 1 rfl) ?_
  refine r_get C hw (hsh 15 _ rfl) fl_X5_55 (oV_i rfl) dX5_release_4 (ti_c (ig (B + 15) 9).toInt rfl fun z1 hz1 => ?_)
  have k2 : (ig (B + 15) (9)).toInt = 0 := by exact z0 (hfo)
  refine b_ge (tgt := 102) hx hb dX5_release_7 (by decide) (fun c7 => ?_) (fun c7 => ?_)
  · exact r_vret C hw hr hlk (Nat.le_of_ble_eq_true rfl) (Nat.le_of_ble_eq_true rfl) dX5_release_102 ⟨rfl, rfl, rfl, rfl, hsz, rfl⟩
  · exact absurd c7 (by omega)

set_option maxHeartbeats 4000000 in
set_option maxRecDepth 100000 in
theorem t_X5_settle (l : Launch) (B : Nat) (D : va_G) (cA : Nat → ClassId) (kd : sK) (ig : sI) (rg : sR) (lg : sG) (sz : Nat) (F : FS B kd ig rg) (hfc : ig (B + 15) 2 = 0) (hfo : ig (B + 15) 9 = 0) : MC l B D cA yX5_settle cX5_settle 3 none (rL 3 0 0) [.ref (B + 15)] kd ig rg lg sz (fun r kd' ig' rg' lg' n => kd = kd' ∧ rg = rg' ∧ Off B 17 18 lg' lg ∧ n = sz ∧ (r = none) ∧ Off B 15 24 ig' ig ∧ ig' (B + 15) 2 = 0 ∧ ig' (B + 15) 9 = 0) := by
  refine MC.of (own := RX5) (by decide +kernel) rfl (Nat.le_of_ble_eq_true rfl) ?_
  intro p e s m args below meth c ls C hr hlk hnm hw hsz hl
  have hx := C.1.1
  have hb := C.1.2.1
  have hown := C.1.2.2.2.1
  have hts := C.1.2.2.2.2
  have hl : lv_has ls 3 [(0, .ref (B + 15))] := hl
  have Fs := F
  obtain ⟨hsh, hrs, hce, hbf, hbi, hsi, hke⟩ := F
  have oig : Off B 15 24 ig ig := Off.rf
  have olg : Off B 17 18 lg lg := Off.rf
  refine lv_aload_n hx hb dX5_settle_0 rfl (lv_at hl 0 rfl) ?_
  refine r_get C hw (hsh 15 _ rfl) fl_X5_42 (oV_i rfl) dX5_settle_1 (ti_c (ig (B + 15) 11).toInt rfl fun z1 hz1 => ?_)
  refine lv_aload_n hx hb dX5_settle_4 rfl (lv_at hl 0 rfl) ?_
  refine r_get C hw (hsh 15 _ rfl) fl_X5_9 (oV_r rfl (hrs (15, 0, 9) (by decide))) dX5_settle_5 ?_
  refine r_get C hw (hsh 9 _ rfl) fl_X5_46 (oV_i rfl) dX5_settle_8 (ti_c (ig (B + 9) 6).toInt rfl fun z3 hz3 => ?_)
  have k4 : (ig (B + 9) (6)).toInt = 0 := z0 (Fs.si (6))
  refine b_ne (tgt := 15) hx hb dX5_settle_11 (by decide) (fun c11 => ?_) (fun c11 => ?_)
  · refine lv_aload_n hx hb dX5_settle_15 rfl (lv_at hl 0 rfl) ?_
    refine lv_aload_n hx hb dX5_settle_16 rfl (lv_at hl 0 rfl) ?_
    refine r_get C hw (hsh 15 _ rfl) fl_X5_9 (oV_r rfl (hrs (15, 0, 9) (by decide))) dX5_settle_17 ?_
    refine r_get C hw (hsh 9 _ rfl) fl_X5_46 (oV_i rfl) dX5_settle_20 (ti_c (ig (B + 9) 6).toInt rfl fun z5 hz5 => ?_)
    have k6 : (ig (B + 9) (6)).toInt = 0 := z0 (Fs.si (6))
    refine r_puti C hw (hsh 15 _ rfl) fl_X5_42 rfl rfl rfl dX5_settle_23 (fun H locs hH hw => ?_)
    obtain ⟨ig7, eig7⟩ : ∃ f, f = up2 ig (B + 15) 11 z5 := ⟨_, rfl⟩
    rw [← eig7] at hw
    have hsz := hH.trans hsz
    have oig : Off B 15 24 ig7 ig := fun a j h => by rw [eig7]; exact (up2_a (by omega)).trans (oig a j h)
    refine lv_aload_n hx hb dX5_settle_26 rfl (lv_at hl 0 rfl) ?_
    refine r_callV (As := []) (rest := []) C hw (t_X5_forgetReads l B D cA kd ig7 rg lg _ hsh hrs (by rw [eig7, up2_j (by decide)]; exact hfc)) sv_X5_49 (hsh 15 _ rfl) rfl hl.1 rfl (Nat.le_of_ble_eq_true rfl) ⟨Nat.le_of_ble_eq_true rfl, Nat.le_of_ble_eq_true rfl⟩ ⟨Nat.le_of_ble_eq_true rfl, Nat.le_of_ble_eq_true rfl⟩ dX5_settle_27 (fun r13 kd9 ig10 rg11 lg12 H locs hw hH hp14 => ?_)
    obtain ⟨rfl, rfl, la8, hq8, rfl, oa8, hfc⟩ := hp14
    have hsz := hq8.trans hsz
    have oig := Off.tr (lo := 15) (hi := 24) oa8 oig (by decide) (by decide)
    have olg := Off.tr (lo := 17) (hi := 18) la8 olg (by decide) (by decide)
    refine lv_aload_n hx hb dX5_settle_30 rfl (lv_at hl 0 rfl) ?_
    refine r_callV (As := []) (rest := []) C hw (t_X5_gatherReads l B D cA kd ig10 rg lg12 _ (FS.off Fs oig (by decide))) sv_X5_52 (hsh 15 _ rfl) rfl hl.1 rfl (Nat.le_of_ble_eq_true rfl) ⟨Nat.le_of_ble_eq_true rfl, Nat.le_of_ble_eq_true rfl⟩ ⟨Nat.le_of_ble_eq_true rfl, Nat.le_of_ble_eq_true rfl⟩ dX5_settle_31 (fun r20 kd16 ig17 rg18 lg19 H locs hw hH hp21 => ?_)
    obtain ⟨rfl, rfl, rfl, hq15, rfl, ob15⟩ := hp21
    have hsz := hq15.trans hsz
    have oig := Off.tr (lo := 15) (hi := 24) ob15 oig (by decide) (by decide)
    have hfc := (ob15 (B + 15) 2 (by omega)).trans hfc
    refine lv_aload_n hx hb dX5_settle_34 rfl (lv_at hl 0 rfl) ?_
    refine lv_iconst (v := 0) hx hb dX5_settle_35 (by decide) (ti_c 0 (by decide) fun z22 hz22 => ?_)
    refine r_puti C hw (hsh 15 _ rfl) fl_X5_55 rfl rfl rfl dX5_settle_36 (fun H locs hH hw => ?_)
    obtain ⟨ig23, eig23⟩ : ∃ f, f = up2 ig17 (B + 15) 9 z22 := ⟨_, rfl⟩
    rw [← eig23] at hw
    have hsz := hH.trans hsz
    have oig : Off B 15 24 ig23 ig := fun a j h => by rw [eig23]; exact (up2_a (by omega)).trans (oig a j h)
    refine lv_iconst (v := 0) hx hb dX5_settle_39 (by decide) (ti_c 0 (by decide) fun z24 hz24 => ?_)
    refine lv_istore_n (lv' := [(1, .int z24), (0, .ref (B + 15))]) hx hb dX5_settle_40 rfl hl (by decide) rfl (fun ls hl => ?_)
    refine lv_iload_n hx hb dX5_settle_41 rfl (lv_at hl 0 rfl) ?_
    refine lv_aload_n hx hb dX5_settle_42 rfl (lv_at hl 1 rfl) ?_
    refine r_get C hw (hsh 15 _ rfl) fl_X5_58 (oV_i rfl) dX5_settle_43 (ti_c (ig23 (B + 15) 2).toInt rfl fun z25 hz25 => ?_)
    have k26 : (ig23 (B + 15) (2)).toInt = 0 := by rw [eig23, up2_j (by decide)]; exact z0 (hfc)
    refine b_ge (tgt := 87) hx hb dX5_settle_46 (by decide) (fun c46 => ?_) (fun c46 => ?_)
    · refine lv_aload_n hx hb dX5_settle_87 rfl (lv_at hl 1 rfl) ?_
      refine lv_iconst (v := 0) hx hb dX5_settle_88 (by decide) (ti_c 0 (by decide) fun z27 hz27 => ?_)
      refine r_callV (As := [.int z27]) (rest := []) C hw (t_X5_release l B D cA kd ig23 rg lg12 _ z27 hsh (by omega) (by rw [eig23, up2_eq]; exact i32_inj hz22)) sv_X5_69 (hsh 15 _ rfl) rfl hl.1 rfl (Nat.le_of_ble_eq_true rfl) ⟨Nat.le_of_ble_eq_true rfl, Nat.le_of_ble_eq_true rfl⟩ ⟨Nat.le_of_ble_eq_true rfl, Nat.le_of_ble_eq_true rfl⟩ dX5_settle_89 (fun r32 kd28 ig29 rg30 lg31 H locs hw hH hp33 => ?_)
      obtain ⟨rfl, rfl, rfl, rfl, hzhp33, rfl⟩ := hp33
      have hsz := hzhp33.trans hsz
      refine lv_aload_n hx hb dX5_settle_92 rfl (lv_at hl 1 rfl) ?_
      refine r_get C hw (hsh 15 _ rfl) fl_X5_55 (oV_i rfl) dX5_settle_93 (ti_c (ig23 (B + 15) 9).toInt rfl fun z34 hz34 => ?_)
      have k35 : (ig23 (B + 15) (9)).toInt = z22.toInt := by rw [eig23, up2_eq]
      refine lv_aload_n hx hb dX5_settle_96 rfl (lv_at hl 1 rfl) ?_
      refine r_get C hw (hsh 15 _ rfl) fl_X5_58 (oV_i rfl) dX5_settle_97 (ti_c (ig23 (B + 15) 2).toInt rfl fun z36 hz36 => ?_)
      have k37 : (ig23 (B + 15) (2)).toInt = 0 := by rw [eig23, up2_j (by decide)]; exact z0 (hfc)
      refine b_ge (tgt := 117) hx hb dX5_settle_100 (by decide) (fun c100 => ?_) (fun c100 => ?_)
      · exact r_vret C hw hr hlk (Nat.le_of_ble_eq_true rfl) (Nat.le_of_ble_eq_true rfl) dX5_settle_117 ⟨rfl, rfl, olg, hsz, rfl, oig, by rw [eig23, up2_j (by decide)]; exact hfc, by rw [eig23, up2_eq]; exact i32_inj hz22⟩
      · exact absurd c100 (by omega)
    · exact absurd c46 (by omega)
  · exact r_vret C hw hr hlk (Nat.le_of_ble_eq_true rfl) (Nat.le_of_ble_eq_true rfl) dX5_settle_14 ⟨rfl, rfl, Off.rf, hsz, rfl, Off.rf, hfc, hfo⟩

set_option maxHeartbeats 4000000 in
set_option maxRecDepth 100000 in
theorem t_X10_settle (l : Launch) (B : Nat) (D : va_G) (cA : Nat → ClassId) (kd : sK) (ig : sI) (rg : sR) (lg : sG) (sz : Nat) (F : FS B kd ig rg) (hv : ig (B + 24) 8 = -1) (hfc : ig (B + 15) 2 = 0) (hfo : ig (B + 15) 9 = 0) : MC l B D cA yX10_settle cX10_settle 4 none (rL 4 0 0) [.ref (B + 24)] kd ig rg lg sz (fun r kd' ig' rg' lg' n => kd = kd' ∧ rg = rg' ∧ Off B 17 18 lg' lg ∧ n = sz ∧ (r = none) ∧ Off B 15 29 ig' ig ∧ (∀ j : Nat, j < 288 → ig' (B + 25) j = 0) ∧ (∀ j : Nat, j < 288 → ig' (B + 26) j = 0)) := by
  refine MC.of (own := RX10) (by decide +kernel) rfl (Nat.le_of_ble_eq_true rfl) ?_
  intro p e s m args below meth c ls C hr hlk hnm hw hsz hl
  have hx := C.1.1
  have hb := C.1.2.1
  have hown := C.1.2.2.2.1
  have hts := C.1.2.2.2.2
  have hl : lv_has ls 4 [(0, .ref (B + 24))] := hl
  have Fs := F
  obtain ⟨hsh, hrs, hce, hbf, hbi, hsi, hke⟩ := F
  have oig : Off B 15 29 ig ig := Off.rf
  have olg : Off B 17 18 lg lg := Off.rf
  refine lv_aload_n hx hb dX10_settle_0 rfl (lv_at hl 0 rfl) ?_
  refine r_get C hw (hsh 24 _ rfl) fl_X10_32 (oV_i rfl) dX10_settle_1 (ti_c (ig (B + 24) 8).toInt rfl fun z1 hz1 => ?_)
  have k2 : (ig (B + 24) (8)).toInt = -1 := by exact zm1 (hv)
  refine lv_aload_n hx hb dX10_settle_4 rfl (lv_at hl 0 rfl) ?_
  refine r_get C hw (hsh 24 _ rfl) fl_X10_9 (oV_r rfl (hrs (24, 0, 9) (by decide))) dX10_settle_5 ?_
  refine r_get C hw (hsh 9 _ rfl) fl_X10_36 (oV_i rfl) dX10_settle_8 (ti_c (ig (B + 9) 6).toInt rfl fun z3 hz3 => ?_)
  have k4 : (ig (B + 9) (6)).toInt = 0 := z0 (Fs.si (6))
  refine b_ne (tgt := 15) hx hb dX10_settle_11 (by decide) (fun c11 => ?_) (fun c11 => ?_)
  · refine lv_aload_n hx hb dX10_settle_15 rfl (lv_at hl 0 rfl) ?_
    refine lv_aload_n hx hb dX10_settle_16 rfl (lv_at hl 0 rfl) ?_
    refine r_get C hw (hsh 24 _ rfl) fl_X10_9 (oV_r rfl (hrs (24, 0, 9) (by decide))) dX10_settle_17 ?_
    refine r_get C hw (hsh 9 _ rfl) fl_X10_36 (oV_i rfl) dX10_settle_20 (ti_c (ig (B + 9) 6).toInt rfl fun z5 hz5 => ?_)
    have k6 : (ig (B + 9) (6)).toInt = 0 := z0 (Fs.si (6))
    refine r_puti C hw (hsh 24 _ rfl) fl_X10_32 rfl rfl rfl dX10_settle_23 (fun H locs hH hw => ?_)
    obtain ⟨ig7, eig7⟩ : ∃ f, f = up2 ig (B + 24) 8 z5 := ⟨_, rfl⟩
    rw [← eig7] at hw
    have hsz := hH.trans hsz
    have oig : Off B 15 29 ig7 ig := fun a j h => by rw [eig7]; exact (up2_a (by omega)).trans (oig a j h)
    refine lv_aload_n hx hb dX10_settle_26 rfl (lv_at hl 0 rfl) ?_
    refine r_get C hw (hsh 24 _ rfl) fl_X10_15 (oV_r rfl (hrs (24, 1, 15) (by decide))) dX10_settle_27 ?_
    refine r_callV (As := []) (rest := []) C hw (t_X5_settle l B D cA kd ig7 rg lg _ (FS.off Fs oig (by decide)) (by rw [eig7, up2_a (by omega)]; exact hfc) (by rw [eig7, up2_a (by omega)]; exact hfo)) sv_X10_39 (hsh 15 _ rfl) rfl hl.1 rfl (Nat.le_of_ble_eq_true rfl) ⟨Nat.le_of_ble_eq_true rfl, Nat.le_of_ble_eq_true rfl⟩ ⟨Nat.le_of_ble_eq_true rfl, Nat.le_of_ble_eq_true rfl⟩ dX10_settle_30 (fun r13 kd9 ig10 rg11 lg12 H locs hw hH hp14 => ?_)
    obtain ⟨rfl, rfl, la8, hq8, rfl, oa8, hfc, hfo⟩ := hp14
    have hsz := hq8.trans hsz
    have oig := Off.tr (lo := 15) (hi := 29) oa8 oig (by decide) (by decide)
    have olg := Off.tr (lo := 17) (hi := 18) la8 olg (by decide) (by decide)
    refine lv_iconst (v := 0) hx hb dX10_settle_33 (by decide) (ti_c 0 (by decide) fun z15 hz15 => ?_)
    refine lv_istore_n (lv' := [(1, .int z15), (0, .ref (B + 24))]) hx hb dX10_settle_34 rfl hl (by decide) rfl (fun ls hl => ?_)
    have L35 : ∀ (n : Nat) (ls : Array Slot) (H : Heap) (locs : List Loc) (ig17 : sI) (v16 : Int32), lv_has ls 4 [(1, .int v16), (0, .ref (B + 24))] → WD B D cA s.heap kd ig17 rg lg12 H locs → H.size = sz → (0 ≤ v16.toInt) → (v16.toInt ≤ 288) → (∀ j : Nat, (j : Int) < v16.toInt → ig17 (B + 25) j = 0) → (∀ j : Nat, (j : Int) < v16.toInt → ig17 (B + 26) j = 0) → (ig17 (B + 15) 9 = 0) → (Off B 15 29 ig17 ig) → 288 - v16.toInt < (n : Int) → W p l e (rL 4 0 0) s m args below meth c H locs 0 0 (MQ below (QcW B D cA (fun r kd' ig' rg' lg' n => kd = kd' ∧ rg = rg' ∧ Off B 17 18 lg' lg ∧ n = sz ∧ (r = none) ∧ Off B 15 29 ig' ig ∧ (∀ j : Nat, j < 288 → ig' (B + 25) j = 0) ∧ (∀ j : Nat, j < 288 → ig' (B + 26) j = 0))) args s 0 0 (fun q => B ≤ q)) (F0 m 35 ls []) := by
      intro n
      induction n with
      | zero => intro ls H locs ig17 v16 hl hw hsz g35_0 g35_1 g35_2 g35_3 g35_4 g35_5 hmu; exact absurd hmu (by omega)
      | succ n ih =>
        intro ls H locs ig17 v16 hl hw hsz g35_0 g35_1 g35_2 g35_3 g35_4 g35_5 hmu
        have oig := g35_5
        have hfo := g35_4
        refine lv_iload_n hx hb dX10_settle_35 rfl (lv_at hl 0 rfl) ?_
        refine lv_sipush (v := 288) hx hb dX10_settle_36 (by decide) (ti_c 288 (by decide) fun z18 hz18 => ?_)
        refine b_ge (tgt := 72) hx hb dX10_settle_39 (by decide) (fun c39 => ?_) (fun c39 => ?_)
        · refine lv_iconst (v := 0) hx hb dX10_settle_72 (by decide) (ti_c 0 (by decide) fun z19 hz19 => ?_)
          refine lv_istore_n (lv' := [(1, .int z19), (0, .ref (B + 24))]) hx hb dX10_settle_73 rfl hl (by decide) rfl (fun ls hl => ?_)
          refine lv_iload_n hx hb dX10_settle_74 rfl (lv_at hl 0 rfl) ?_
          refine lv_aload_n hx hb dX10_settle_75 rfl (lv_at hl 1 rfl) ?_
          refine r_get C hw (hsh 24 _ rfl) fl_X10_15 (oV_r rfl (hrs (24, 1, 15) (by decide))) dX10_settle_76 ?_
          refine r_callV (As := []) (rest := [.int z19]) C hw (t_X5_orderSize l B D cA kd ig17 rg lg12 _ hsh hfo) sv_X10_53 (hsh 15 _ rfl) rfl hl.1 rfl (Nat.le_of_ble_eq_true rfl) ⟨Nat.le_of_ble_eq_true rfl, Nat.le_of_ble_eq_true rfl⟩ ⟨Nat.le_of_ble_eq_true rfl, Nat.le_of_ble_eq_true rfl⟩ dX10_settle_79 (fun r25 kd21 ig22 rg23 lg24 H locs hw hH hp26 => ?_)
          obtain ⟨rfl, rfl, rfl, rfl, hzz20, z20, rfl, hz20⟩ := hp26
          have hsz := hzz20.trans hsz
          refine b_ge (tgt := 126) hx hb dX10_settle_82 (by decide) (fun c82 => ?_) (fun c82 => ?_)
          · exact r_vret C hw hr hlk (Nat.le_of_ble_eq_true rfl) (Nat.le_of_ble_eq_true rfl) dX10_settle_126 ⟨rfl, rfl, olg, hsz, rfl, oig, fun j hj => g35_2 j (by omega), fun j hj => g35_3 j (by omega)⟩
          · exact absurd c82 (by omega)
        · refine lv_aload_n hx hb dX10_settle_42 rfl (lv_at hl 1 rfl) ?_
          refine r_get C hw (hsh 24 _ rfl) fl_X10_19 (oV_r rfl (hrs (24, 2, 25) (by decide))) dX10_settle_43 ?_
          refine lv_iload_n hx hb dX10_settle_46 rfl (lv_at hl 0 rfl) ?_
          refine lv_aload_n hx hb dX10_settle_47 rfl (lv_at hl 1 rfl) ?_
          refine r_get C hw (hsh 24 _ rfl) fl_X10_9 (oV_r rfl (hrs (24, 0, 9) (by decide))) dX10_settle_48 ?_
          refine lv_iload_n hx hb dX10_settle_51 rfl (lv_at hl 0 rfl) ?_
          refine r_callV (As := [.int v16]) (rest := [.int v16, .ref (B + 25)]) C hw (t_X6_at l B D cA kd ig17 rg lg12 _ v16 (FS.off Fs oig (by decide))) sv_X10_44 (hsh 9 _ rfl) rfl hl.1 rfl (Nat.le_of_ble_eq_true rfl) ⟨Nat.le_of_ble_eq_true rfl, Nat.le_of_ble_eq_true rfl⟩ ⟨Nat.le_of_ble_eq_true rfl, Nat.le_of_ble_eq_true rfl⟩ dX10_settle_52 (fun r31 kd27 ig28 rg29 lg30 H locs hw hH hp32 => ?_)
          obtain ⟨rfl, rfl, rfl, rfl, hzhp32, rfl⟩ := hp32
          have hsz := hzhp32.trans hsz
          refine r_get C hw (hsh 10 _ rfl) fl_X10_48 (oV_i rfl) dX10_settle_55 (ti_c (ig17 (B + 10) 1).toInt rfl fun z33 hz33 => ?_)
          have k34 : (ig17 (B + 10) (1)).toInt = 0 := z0 ((FS.off Fs oig (by decide)).bi (1))
          refine r_iast C hw (hsh 25 _ rfl) (by omega) (by omega) dX10_settle_58 (fun H locs hH hw => ?_)
          obtain ⟨ig35, eig35⟩ : ∃ f, f = up2 ig17 (B + 25) v16.toInt.toNat z33 := ⟨_, rfl⟩
          rw [← eig35] at hw
          have hsz := hH.trans hsz
          have oig : Off B 15 29 ig35 ig := fun a j h => by rw [eig35]; exact (up2_a (by omega)).trans (oig a j h)
          refine lv_aload_n hx hb dX10_settle_59 rfl (lv_at hl 1 rfl) ?_
          refine r_get C hw (hsh 24 _ rfl) fl_X10_23 (oV_r rfl (hrs (24, 3, 26) (by decide))) dX10_settle_60 ?_
          refine lv_iload_n hx hb dX10_settle_63 rfl (lv_at hl 0 rfl) ?_
          refine lv_iconst (v := 0) hx hb dX10_settle_64 (by decide) (ti_c 0 (by decide) fun z36 hz36 => ?_)
          refine r_iast C hw (hsh 26 _ rfl) (by omega) (by omega) dX10_settle_65 (fun H locs hH hw => ?_)
          obtain ⟨ig37, eig37⟩ : ∃ f, f = up2 ig35 (B + 26) v16.toInt.toNat z36 := ⟨_, rfl⟩
          rw [← eig37] at hw
          have hsz := hH.trans hsz
          have oig : Off B 15 29 ig37 ig := fun a j h => by rw [eig37]; exact (up2_a (by omega)).trans (oig a j h)
          refine ti_inc hx hb dX10_settle_66 hl (k := 0) rfl (by decide) (by decide) (by omega) (fun z38 hz38 ls hl => ?_)
          have hl : lv_has ls 4 [(1, .int z38), (0, .ref (B + 24))] := hl
          refine lv_goto (tgt := 35) hx hb dX10_settle_69 (by decide) ?_
          exact ih ls H locs ig37 z38 (lv_sub hl [0, 1] rfl) hw hsz (by omega) (by omega) (by intro j hj; rw [eig37, up2_a (by omega), eig35]; exact fill1 g35_2 (by omega) (i32_inj (hz33.trans (z0 (FS.bi (FS.off Fs g35_5 (by decide)) 1)))) j (by omega)) (by intro j hj; rw [eig37]; refine fill1 (fun j hj => ?_) (by omega) (i32_inj hz36) j (by omega); rw [eig35, up2_a (by omega)]; exact g35_3 j hj) (by rw [eig37, up2_a (by omega), eig35, up2_a (by omega)]; exact hfo) oig (by omega)
    exact L35 ((288 - z15.toInt) + 1).toNat ls H locs ig10 z15 (lv_sub hl [0, 1] rfl) hw hsz (by omega) (by omega) (fun j hj => absurd hj (by omega)) (fun j hj => absurd hj (by omega)) (hfo) oig (by omega)
  · exact absurd c11 (by omega)

set_option maxHeartbeats 4000000 in
set_option maxRecDepth 100000 in
theorem t_X10_valueAt (l : Launch) (B : Nat) (D : va_G) (cA : Nat → ClassId) (kd : sK) (ig : sI) (rg : sR) (lg : sG) (sz : Nat) (x : Int32) (hsh : Sh B kd) (hrs : Rs B rg) (hf : ∀ j : Nat, j < 288 → ig (B + 25) j = 0) : MC l B D cA yX10_valueAt cX10_valueAt 2 (some .int) (rL 1 0 0) [.ref (B + 24), .int x] kd ig rg lg sz (Pu kd ig rg lg sz (fun r => ∃ z : Int32, r = some (.int z) ∧ z.toInt = 0)) := by
  refine MC.of (own := RX10) (by decide +kernel) rfl (Nat.le_of_ble_eq_true rfl) ?_
  intro p e s m args below meth c ls C hr hlk hnm hw hsz hl
  have hx := C.1.1
  have hb := C.1.2.1
  have hown := C.1.2.2.2.1
  have hts := C.1.2.2.2.2
  have hl : lv_has ls 2 [(0, .ref (B + 24)), (1, .int x)] := hl
  refine lv_iload_n hx hb dX10_valueAt_0 rfl (lv_at hl 1 rfl) ?_
  refine r_callN (As := [.int x]) (rest := []) C hw (t_X11_onSheet l B D cA kd ig rg lg _ x) sn_X10_65 rfl hl.1 rfl (Nat.le_of_ble_eq_true rfl) ⟨Nat.le_of_ble_eq_true rfl, Nat.le_of_ble_eq_true rfl⟩ ⟨Nat.le_of_ble_eq_true rfl, Nat.le_of_ble_eq_true rfl⟩ dX10_valueAt_1 (fun r6 kd2 ig3 rg4 lg5 H locs hw hH hp7 => ?_)
  obtain ⟨rfl, rfl, rfl, rfl, hzz1, z1, rfl, hz1⟩ := hp7
  have hsz := hzz1.trans hsz
  refine z_eq (tgt := 16) hx hb dX10_valueAt_4 (by decide) (fun c4 => ?_) (fun c4 => ?_)
  · refine lv_iconst (v := 0) hx hb dX10_valueAt_16 (by decide) (ti_c 0 (by decide) fun z8 hz8 => ?_)
    exact r_iret C hw hr hlk rfl (Nat.le_of_ble_eq_true rfl) (Nat.le_of_ble_eq_true rfl) dX10_valueAt_17 ⟨rfl, rfl, rfl, rfl, hsz, _, rfl, by omega⟩
  · refine lv_aload_n hx hb dX10_valueAt_7 rfl (lv_at hl 0 rfl) ?_
    refine r_get C hw (hsh 24 _ rfl) fl_X10_19 (oV_r rfl (hrs (24, 2, 25) (by decide))) dX10_valueAt_8 ?_
    refine lv_iload_n hx hb dX10_valueAt_11 rfl (lv_at hl 1 rfl) ?_
    refine r_iald C hw (hsh 25 _ rfl) (by omega) (by omega) dX10_valueAt_12 (ti_c (ig (B + 25) x.toInt.toNat).toInt rfl fun z9 hz9 => ?_)
    have k := z0 (hf (x.toInt.toNat) (by omega))
    refine lv_goto (tgt := 17) hx hb dX10_valueAt_13 (by decide) ?_
    exact r_iret C hw hr hlk rfl (Nat.le_of_ble_eq_true rfl) (Nat.le_of_ble_eq_true rfl) dX10_valueAt_17 ⟨rfl, rfl, rfl, rfl, hsz, _, rfl, by omega⟩

set_option maxHeartbeats 4000000 in
set_option maxRecDepth 100000 in
theorem t_X10_errorAt (l : Launch) (B : Nat) (D : va_G) (cA : Nat → ClassId) (kd : sK) (ig : sI) (rg : sR) (lg : sG) (sz : Nat) (x : Int32) (hsh : Sh B kd) (hrs : Rs B rg) (hf : ∀ j : Nat, j < 288 → ig (B + 26) j = 0) : MC l B D cA yX10_errorAt cX10_errorAt 2 (some .int) (rL 1 0 0) [.ref (B + 24), .int x] kd ig rg lg sz (Pu kd ig rg lg sz (fun r => ∃ z : Int32, r = some (.int z) ∧ z.toInt = 0)) := by
  refine MC.of (own := RX10) (by decide +kernel) rfl (Nat.le_of_ble_eq_true rfl) ?_
  intro p e s m args below meth c ls C hr hlk hnm hw hsz hl
  have hx := C.1.1
  have hb := C.1.2.1
  have hown := C.1.2.2.2.1
  have hts := C.1.2.2.2.2
  have hl : lv_has ls 2 [(0, .ref (B + 24)), (1, .int x)] := hl
  refine lv_iload_n hx hb dX10_errorAt_0 rfl (lv_at hl 1 rfl) ?_
  refine r_callN (As := [.int x]) (rest := []) C hw (t_X11_onSheet l B D cA kd ig rg lg _ x) sn_X10_65 rfl hl.1 rfl (Nat.le_of_ble_eq_true rfl) ⟨Nat.le_of_ble_eq_true rfl, Nat.le_of_ble_eq_true rfl⟩ ⟨Nat.le_of_ble_eq_true rfl, Nat.le_of_ble_eq_true rfl⟩ dX10_errorAt_1 (fun r6 kd2 ig3 rg4 lg5 H locs hw hH hp7 => ?_)
  obtain ⟨rfl, rfl, rfl, rfl, hzz1, z1, rfl, hz1⟩ := hp7
  have hsz := hzz1.trans hsz
  refine z_eq (tgt := 16) hx hb dX10_errorAt_4 (by decide) (fun c4 => ?_) (fun c4 => ?_)
  · refine lv_iconst (v := 0) hx hb dX10_errorAt_16 (by decide) (ti_c 0 (by decide) fun z8 hz8 => ?_)
    exact r_iret C hw hr hlk rfl (Nat.le_of_ble_eq_true rfl) (Nat.le_of_ble_eq_true rfl) dX10_errorAt_17 ⟨rfl, rfl, rfl, rfl, hsz, _, rfl, by omega⟩
  · refine lv_aload_n hx hb dX10_errorAt_7 rfl (lv_at hl 0 rfl) ?_
    refine r_get C hw (hsh 24 _ rfl) fl_X10_23 (oV_r rfl (hrs (24, 3, 26) (by decide))) dX10_errorAt_8 ?_
    refine lv_iload_n hx hb dX10_errorAt_11 rfl (lv_at hl 1 rfl) ?_
    refine r_iald C hw (hsh 26 _ rfl) (by omega) (by omega) dX10_errorAt_12 (ti_c (ig (B + 26) x.toInt.toNat).toInt rfl fun z9 hz9 => ?_)
    have k := z0 (hf (x.toInt.toNat) (by omega))
    refine lv_goto (tgt := 17) hx hb dX10_errorAt_13 (by decide) ?_
    exact r_iret C hw hr hlk rfl (Nat.le_of_ble_eq_true rfl) (Nat.le_of_ble_eq_true rfl) dX10_errorAt_17 ⟨rfl, rfl, rfl, rfl, hsz, _, rfl, by omega⟩

set_option maxHeartbeats 4000000 in
set_option maxRecDepth 100000 in
theorem t_X10_errors (l : Launch) (B : Nat) (D : va_G) (cA : Nat → ClassId) (kd : sK) (ig : sI) (rg : sR) (lg : sG) (sz : Nat) (hsh : Sh B kd) (hrs : Rs B rg) (hf : ∀ j : Nat, j < 288 → ig (B + 26) j = 0) : MC l B D cA yX10_errors cX10_errors 3 (some .int) (rL 0 0 0) [.ref (B + 24)] kd ig rg lg sz (Pu kd ig rg lg sz (fun r => ∃ z : Int32, r = some (.int z) ∧ z.toInt = 0)) := by
  refine MC.of (own := RX10) (by decide +kernel) rfl (Nat.le_of_ble_eq_true rfl) ?_
  intro p e s m args below meth c ls C hr hlk hnm hw hsz hl
  have hx := C.1.1
  have hb := C.1.2.1
  have hown := C.1.2.2.2.1
  have hts := C.1.2.2.2.2
  have hl : lv_has ls 3 [(0, .ref (B + 24))] := hl
  refine lv_iconst (v := 0) hx hb dX10_errors_0 (by decide) (ti_c 0 (by decide) fun z1 hz1 => ?_)
  refine lv_istore_n (lv' := [(1, .int z1), (0, .ref (B + 24))]) hx hb dX10_errors_1 rfl hl (by decide) rfl (fun ls hl => ?_)
  refine lv_iconst (v := 0) hx hb dX10_errors_2 (by decide) (ti_c 0 (by decide) fun z2 hz2 => ?_)
  refine lv_istore_n (lv' := [(2, .int z2), (1, .int z1), (0, .ref (B + 24))]) hx hb dX10_errors_3 rfl hl (by decide) rfl (fun ls hl => ?_)
  have L4 : ∀ (n : Nat) (ls : Array Slot) (H : Heap) (locs : List Loc) (v3 : Int32), lv_has ls 3 [(2, .int v3), (1, .int z1), (0, .ref (B + 24))] → WD B D cA s.heap kd ig rg lg H locs → H.size = sz → (0 ≤ v3.toInt) → (v3.toInt ≤ 288) → 288 - v3.toInt < (n : Int) → W p l e (rL 0 0 0) s m args below meth c H locs 0 0 (MQ below (QcW B D cA (Pu kd ig rg lg sz (fun r => ∃ z : Int32, r = some (.int z) ∧ z.toInt = 0))) args s 0 0 (fun q => B ≤ q)) (F0 m 4 ls []) := by
    intro n
    induction n with
    | zero => intro ls H locs v3 hl hw hsz g4_0 g4_1 hmu; exact absurd hmu (by omega)
    | succ n ih =>
      intro ls H locs v3 hl hw hsz g4_0 g4_1 hmu
      refine lv_iload_n hx hb dX10_errors_4 rfl (lv_at hl 0 rfl) ?_
      refine lv_sipush (v := 288) hx hb dX10_errors_5 (by decide) (ti_c 288 (by decide) fun z4 hz4 => ?_)
      refine b_ge (tgt := 29) hx hb dX10_errors_8 (by decide) (fun c8 => ?_) (fun c8 => ?_)
      · refine lv_iload_n hx hb dX10_errors_29 rfl (lv_at hl 1 rfl) ?_
        exact r_iret C hw hr hlk rfl (Nat.le_of_ble_eq_true rfl) (Nat.le_of_ble_eq_true rfl) dX10_errors_30 ⟨rfl, rfl, rfl, rfl, hsz, _, rfl, by omega⟩
      · refine lv_aload_n hx hb dX10_errors_11 rfl (lv_at hl 2 rfl) ?_
        refine r_get C hw (hsh 24 _ rfl) fl_X10_23 (oV_r rfl (hrs (24, 3, 26) (by decide))) dX10_errors_12 ?_
        refine lv_iload_n hx hb dX10_errors_15 rfl (lv_at hl 0 rfl) ?_
        refine r_iald C hw (hsh 26 _ rfl) (by omega) (by omega) dX10_errors_16 (ti_c (ig (B + 26) v3.toInt.toNat).toInt rfl fun z5 hz5 => ?_)
        have k := z0 (hf (v3.toInt.toNat) (by omega))
        refine z_eq (tgt := 23) hx hb dX10_errors_17 (by decide) (fun c17 => ?_) (fun c17 => ?_)
        · refine ti_inc hx hb dX10_errors_23 hl (k := 0) rfl (by decide) (by decide) (by omega) (fun z6 hz6 ls hl => ?_)
          have hl : lv_has ls 3 [(2, .int z6), (1, .int z1), (0, .ref (B + 24))] := hl
          refine lv_goto (tgt := 4) hx hb dX10_errors_26 (by decide) ?_
          exact ih ls H locs z6 (lv_sub hl [0, 1, 2] rfl) hw hsz (by omega) (by omega) (by omega)
        · exact absurd c17 (by omega)
  exact L4 ((288 - z2.toInt) + 1).toNat ls s.heap [] z2 (lv_sub hl [0, 1, 2] rfl) hw hsz (by omega) (by omega) (by omega)

set_option maxHeartbeats 4000000 in
set_option maxRecDepth 100000 in
theorem t_X9_settle (l : Launch) (B : Nat) (D : va_G) (cA : Nat → ClassId) (kd : sK) (ig : sI) (rg : sR) (lg : sG) (sz : Nat) (F : FS B kd ig rg) (hv : ig (B + 32) 8 = -1) (hfc : ig (B + 15) 2 = 0) (hfo : ig (B + 15) 9 = 0) : MC l B D cA yX9_settle cX9_settle 4 none (rL 4 0 0) [.ref (B + 32)] kd ig rg lg sz (fun r kd' ig' rg' lg' n => kd = kd' ∧ rg = rg' ∧ Off B 17 18 lg' lg ∧ n = sz ∧ (r = none) ∧ Off B 15 37 ig' ig ∧ ig' (B + 15) 2 = 0 ∧ ig' (B + 15) 9 = 0 ∧ (∀ j : Nat, j < 864 → ig' (B + 33) j = 0)) := by
  refine MC.of (own := RX9) (by decide +kernel) rfl (Nat.le_of_ble_eq_true rfl) ?_
  intro p e s m args below meth c ls C hr hlk hnm hw hsz hl
  have hx := C.1.1
  have hb := C.1.2.1
  have hown := C.1.2.2.2.1
  have hts := C.1.2.2.2.2
  have hl : lv_has ls 4 [(0, .ref (B + 32))] := hl
  have Fs := F
  obtain ⟨hsh, hrs, hce, hbf, hbi, hsi, hke⟩ := F
  have oig : Off B 15 37 ig ig := Off.rf
  have olg : Off B 17 18 lg lg := Off.rf
  refine lv_aload_n hx hb dX9_settle_0 rfl (lv_at hl 0 rfl) ?_
  refine r_get C hw (hsh 32 _ rfl) fl_X9_33 (oV_i rfl) dX9_settle_1 (ti_c (ig (B + 32) 8).toInt rfl fun z1 hz1 => ?_)
  have k2 : (ig (B + 32) (8)).toInt = -1 := by exact zm1 (hv)
  refine lv_aload_n hx hb dX9_settle_4 rfl (lv_at hl 0 rfl) ?_
  refine r_get C hw (hsh 32 _ rfl) fl_X9_9 (oV_r rfl (hrs (32, 0, 9) (by decide))) dX9_settle_5 ?_
  refine r_get C hw (hsh 9 _ rfl) fl_X9_37 (oV_i rfl) dX9_settle_8 (ti_c (ig (B + 9) 6).toInt rfl fun z3 hz3 => ?_)
  have k4 : (ig (B + 9) (6)).toInt = 0 := z0 (Fs.si (6))
  refine b_ne (tgt := 15) hx hb dX9_settle_11 (by decide) (fun c11 => ?_) (fun c11 => ?_)
  · refine lv_aload_n hx hb dX9_settle_15 rfl (lv_at hl 0 rfl) ?_
    refine lv_aload_n hx hb dX9_settle_16 rfl (lv_at hl 0 rfl) ?_
    refine r_get C hw (hsh 32 _ rfl) fl_X9_9 (oV_r rfl (hrs (32, 0, 9) (by decide))) dX9_settle_17 ?_
    refine r_get C hw (hsh 9 _ rfl) fl_X9_37 (oV_i rfl) dX9_settle_20 (ti_c (ig (B + 9) 6).toInt rfl fun z5 hz5 => ?_)
    have k6 : (ig (B + 9) (6)).toInt = 0 := z0 (Fs.si (6))
    refine r_puti C hw (hsh 32 _ rfl) fl_X9_33 rfl rfl rfl dX9_settle_23 (fun H locs hH hw => ?_)
    obtain ⟨ig7, eig7⟩ : ∃ f, f = up2 ig (B + 32) 8 z5 := ⟨_, rfl⟩
    rw [← eig7] at hw
    have hsz := hH.trans hsz
    have oig : Off B 15 37 ig7 ig := fun a j h => by rw [eig7]; exact (up2_a (by omega)).trans (oig a j h)
    refine lv_aload_n hx hb dX9_settle_26 rfl (lv_at hl 0 rfl) ?_
    refine r_get C hw (hsh 32 _ rfl) fl_X9_15 (oV_r rfl (hrs (32, 1, 15) (by decide))) dX9_settle_27 ?_
    refine r_callV (As := []) (rest := []) C hw (t_X5_settle l B D cA kd ig7 rg lg _ (FS.off Fs oig (by decide)) (by rw [eig7, up2_a (by omega)]; exact hfc) (by rw [eig7, up2_a (by omega)]; exact hfo)) sv_X9_40 (hsh 15 _ rfl) rfl hl.1 rfl (Nat.le_of_ble_eq_true rfl) ⟨Nat.le_of_ble_eq_true rfl, Nat.le_of_ble_eq_true rfl⟩ ⟨Nat.le_of_ble_eq_true rfl, Nat.le_of_ble_eq_true rfl⟩ dX9_settle_30 (fun r13 kd9 ig10 rg11 lg12 H locs hw hH hp14 => ?_)
    obtain ⟨rfl, rfl, la8, hq8, rfl, oa8, hfc, hfo⟩ := hp14
    have hsz := hq8.trans hsz
    have oig := Off.tr (lo := 15) (hi := 37) oa8 oig (by decide) (by decide)
    have olg := Off.tr (lo := 17) (hi := 18) la8 olg (by decide) (by decide)
    refine lv_iconst (v := 0) hx hb dX9_settle_33 (by decide) (ti_c 0 (by decide) fun z15 hz15 => ?_)
    refine lv_istore_n (lv' := [(1, .int z15), (0, .ref (B + 32))]) hx hb dX9_settle_34 rfl hl (by decide) rfl (fun ls hl => ?_)
    have L35 : ∀ (n : Nat) (ls : Array Slot) (H : Heap) (locs : List Loc) (ig17 : sI) (v16 : Int32), lv_has ls 4 [(1, .int v16), (0, .ref (B + 32))] → WD B D cA s.heap kd ig17 rg lg12 H locs → H.size = sz → (0 ≤ v16.toInt) → (v16.toInt ≤ 288) → (∀ j : Nat, (j : Int) < 3 * v16.toInt → ig17 (B + 33) j = 0) → (ig17 (B + 15) 2 = 0) → (ig17 (B + 15) 9 = 0) → (Off B 15 37 ig17 ig) → 288 - v16.toInt < (n : Int) → W p l e (rL 4 0 0) s m args below meth c H locs 0 0 (MQ below (QcW B D cA (fun r kd' ig' rg' lg' n => kd = kd' ∧ rg = rg' ∧ Off B 17 18 lg' lg ∧ n = sz ∧ (r = none) ∧ Off B 15 37 ig' ig ∧ ig' (B + 15) 2 = 0 ∧ ig' (B + 15) 9 = 0 ∧ (∀ j : Nat, j < 864 → ig' (B + 33) j = 0))) args s 0 0 (fun q => B ≤ q)) (F0 m 35 ls []) := by
      intro n
      induction n with
      | zero => intro ls H locs ig17 v16 hl hw hsz g35_0 g35_1 g35_2 g35_3 g35_4 g35_5 hmu; exact absurd hmu (by omega)
      | succ n ih =>
        intro ls H locs ig17 v16 hl hw hsz g35_0 g35_1 g35_2 g35_3 g35_4 g35_5 hmu
        have oig := g35_5
        have hfc := g35_3
        have hfo := g35_4
        refine lv_iload_n hx hb dX9_settle_35 rfl (lv_at hl 0 rfl) ?_
        refine lv_sipush (v := 288) hx hb dX9_settle_36 (by decide) (ti_c 288 (by decide) fun z18 hz18 => ?_)
        refine b_ge (tgt := 104) hx hb dX9_settle_39 (by decide) (fun c39 => ?_) (fun c39 => ?_)
        · refine lv_iconst (v := 0) hx hb dX9_settle_104 (by decide) (ti_c 0 (by decide) fun z19 hz19 => ?_)
          refine lv_istore_n (lv' := [(1, .int z19), (0, .ref (B + 32))]) hx hb dX9_settle_105 rfl hl (by decide) rfl (fun ls hl => ?_)
          refine lv_iload_n hx hb dX9_settle_106 rfl (lv_at hl 0 rfl) ?_
          refine lv_aload_n hx hb dX9_settle_107 rfl (lv_at hl 1 rfl) ?_
          refine r_get C hw (hsh 32 _ rfl) fl_X9_15 (oV_r rfl (hrs (32, 1, 15) (by decide))) dX9_settle_108 ?_
          refine r_callV (As := []) (rest := [.int z19]) C hw (t_X5_orderSize l B D cA kd ig17 rg lg12 _ hsh hfo) sv_X9_60 (hsh 15 _ rfl) rfl hl.1 rfl (Nat.le_of_ble_eq_true rfl) ⟨Nat.le_of_ble_eq_true rfl, Nat.le_of_ble_eq_true rfl⟩ ⟨Nat.le_of_ble_eq_true rfl, Nat.le_of_ble_eq_true rfl⟩ dX9_settle_111 (fun r25 kd21 ig22 rg23 lg24 H locs hw hH hp26 => ?_)
          obtain ⟨rfl, rfl, rfl, rfl, hzz20, z20, rfl, hz20⟩ := hp26
          have hsz := hzz20.trans hsz
          refine b_ge (tgt := 169) hx hb dX9_settle_114 (by decide) (fun c114 => ?_) (fun c114 => ?_)
          · exact r_vret C hw hr hlk (Nat.le_of_ble_eq_true rfl) (Nat.le_of_ble_eq_true rfl) dX9_settle_169 ⟨rfl, rfl, olg, hsz, rfl, oig, hfc, hfo, fun j hj => g35_2 j (by omega)⟩
          · exact absurd c114 (by omega)
        · refine lv_aload_n hx hb dX9_settle_42 rfl (lv_at hl 1 rfl) ?_
          refine r_get C hw (hsh 32 _ rfl) fl_X9_9 (oV_r rfl (hrs (32, 0, 9) (by decide))) dX9_settle_43 ?_
          refine lv_iload_n hx hb dX9_settle_46 rfl (lv_at hl 0 rfl) ?_
          refine r_callV (As := [.int v16]) (rest := []) C hw (t_X6_at l B D cA kd ig17 rg lg12 _ v16 (FS.off Fs oig (by decide))) sv_X9_45 (hsh 9 _ rfl) rfl hl.1 rfl (Nat.le_of_ble_eq_true rfl) ⟨Nat.le_of_ble_eq_true rfl, Nat.le_of_ble_eq_true rfl⟩ ⟨Nat.le_of_ble_eq_true rfl, Nat.le_of_ble_eq_true rfl⟩ dX9_settle_47 (fun r31 kd27 ig28 rg29 lg30 H locs hw hH hp32 => ?_)
          obtain ⟨rfl, rfl, rfl, rfl, hzhp32, rfl⟩ := hp32
          have hsz := hzhp32.trans hsz
          refine lv_astore_n (lv' := [(2, .ref (B + 10)), (1, .int v16), (0, .ref (B + 32))]) hx hb dX9_settle_50 rfl hl (by decide) rfl (fun ls hl => ?_)
          refine lv_aload_n hx hb dX9_settle_51 rfl (lv_at hl 2 rfl) ?_
          refine r_get C hw (hsh 32 _ rfl) fl_X9_19 (oV_r rfl (hrs (32, 2, 33) (by decide))) dX9_settle_52 ?_
          refine lv_iload_n hx hb dX9_settle_55 rfl (lv_at hl 1 rfl) ?_
          refine lv_iconst (v := 3) hx hb dX9_settle_56 (by decide) (ti_c 3 (by decide) fun z33 hz33 => ?_)
          refine lv_imul hx hb dX9_settle_57 (ti_mulR 3 hz33 (by omega) fun z34 hz34 => ?_)
          refine lv_aload_n hx hb dX9_settle_58 rfl (lv_at hl 0 rfl) ?_
          refine r_get C hw (hsh 10 _ rfl) fl_X9_49 (oV_i rfl) dX9_settle_59 (ti_c (ig17 (B + 10) 3).toInt rfl fun z35 hz35 => ?_)
          have k36 : (ig17 (B + 10) (3)).toInt = 0 := z0 ((FS.off Fs oig (by decide)).bi (3))
          refine r_iast C hw (hsh 33 _ rfl) (by omega) (by omega) dX9_settle_62 (fun H locs hH hw => ?_)
          obtain ⟨ig37, eig37⟩ : ∃ f, f = up2 ig17 (B + 33) z34.toInt.toNat z35 := ⟨_, rfl⟩
          rw [← eig37] at hw
          have hsz := hH.trans hsz
          have oig : Off B 15 37 ig37 ig := fun a j h => by rw [eig37]; exact (up2_a (by omega)).trans (oig a j h)
          refine lv_aload_n hx hb dX9_settle_63 rfl (lv_at hl 2 rfl) ?_
          refine r_get C hw (hsh 32 _ rfl) fl_X9_19 (oV_r rfl (hrs (32, 2, 33) (by decide))) dX9_settle_64 ?_
          refine lv_iload_n hx hb dX9_settle_67 rfl (lv_at hl 1 rfl) ?_
          refine lv_iconst (v := 3) hx hb dX9_settle_68 (by decide) (ti_c 3 (by decide) fun z38 hz38 => ?_)
          refine lv_imul hx hb dX9_settle_69 (ti_mulR 3 hz38 (by omega) fun z39 hz39 => ?_)
          refine lv_iconst (v := 1) hx hb dX9_settle_70 (by decide) (ti_c 1 (by decide) fun z40 hz40 => ?_)
          refine lv_iadd hx hb dX9_settle_71 (ti_add (by omega) fun z41 hz41 => ?_)
          refine lv_aload_n hx hb dX9_settle_72 rfl (lv_at hl 0 rfl) ?_
          refine r_get C hw (hsh 10 _ rfl) fl_X9_54 (oV_i rfl) dX9_settle_73 (ti_c (ig37 (B + 10) 4).toInt rfl fun z42 hz42 => ?_)
          have k43 : (ig37 (B + 10) (4)).toInt = 0 := z0 ((FS.off Fs oig (by decide)).bi (4))
          refine r_iast C hw (hsh 33 _ rfl) (by omega) (by omega) dX9_settle_76 (fun H locs hH hw => ?_)
          obtain ⟨ig44, eig44⟩ : ∃ f, f = up2 ig37 (B + 33) z41.toInt.toNat z42 := ⟨_, rfl⟩
          rw [← eig44] at hw
          have hsz := hH.trans hsz
          have oig : Off B 15 37 ig44 ig := fun a j h => by rw [eig44]; exact (up2_a (by omega)).trans (oig a j h)
          refine lv_aload_n hx hb dX9_settle_77 rfl (lv_at hl 2 rfl) ?_
          refine r_get C hw (hsh 32 _ rfl) fl_X9_19 (oV_r rfl (hrs (32, 2, 33) (by decide))) dX9_settle_78 ?_
          refine lv_iload_n hx hb dX9_settle_81 rfl (lv_at hl 1 rfl) ?_
          refine lv_iconst (v := 3) hx hb dX9_settle_82 (by decide) (ti_c 3 (by decide) fun z45 hz45 => ?_)
          refine lv_imul hx hb dX9_settle_83 (ti_mulR 3 hz45 (by omega) fun z46 hz46 => ?_)
          refine lv_iconst (v := 2) hx hb dX9_settle_84 (by decide) (ti_c 2 (by decide) fun z47 hz47 => ?_)
          refine lv_iadd hx hb dX9_settle_85 (ti_add (by omega) fun z48 hz48 => ?_)
          refine lv_aload_n hx hb dX9_settle_86 rfl (lv_at hl 0 rfl) ?_
          refine r_get C hw (hsh 10 _ rfl) fl_X9_57 (oV_i rfl) dX9_settle_87 (ti_c (ig44 (B + 10) 5).toInt rfl fun z49 hz49 => ?_)
          have k50 : (ig44 (B + 10) (5)).toInt = 0 := z0 ((FS.off Fs oig (by decide)).bi (5))
          refine r_iast C hw (hsh 33 _ rfl) (by omega) (by omega) dX9_settle_90 (fun H locs hH hw => ?_)
          obtain ⟨ig51, eig51⟩ : ∃ f, f = up2 ig44 (B + 33) z48.toInt.toNat z49 := ⟨_, rfl⟩
          rw [← eig51] at hw
          have hsz := hH.trans hsz
          have oig : Off B 15 37 ig51 ig := fun a j h => by rw [eig51]; exact (up2_a (by omega)).trans (oig a j h)
          refine lv_aload_n hx hb dX9_settle_91 rfl (lv_at hl 2 rfl) ?_
          refine r_get C hw (hsh 32 _ rfl) fl_X9_23 (oV_r rfl (hrs (32, 3, 34) (by decide))) dX9_settle_92 ?_
          refine lv_iload_n hx hb dX9_settle_95 rfl (lv_at hl 1 rfl) ?_
          refine lv_iconst (v := 0) hx hb dX9_settle_96 (by decide) (ti_c 0 (by decide) fun z52 hz52 => ?_)
          refine r_zast C hw (hsh 34 _ rfl) (by omega) (by omega) (nar_b (by omega)) dX9_settle_97 (fun H locs hH hw => ?_)
          obtain ⟨ig53, eig53⟩ : ∃ f, f = up2 ig51 (B + 34) v16.toInt.toNat z52 := ⟨_, rfl⟩
          rw [← eig53] at hw
          have hsz := hH.trans hsz
          have oig : Off B 15 37 ig53 ig := fun a j h => by rw [eig53]; exact (up2_a (by omega)).trans (oig a j h)
          refine ti_inc hx hb dX9_settle_98 hl (k := 1) rfl (by decide) (by decide) (by omega) (fun z54 hz54 ls hl => ?_)
          have hl : lv_has ls 4 [(1, .int z54), (2, .ref (B + 10)), (0, .ref (B + 32))] := hl
          refine lv_goto (tgt := 35) hx hb dX9_settle_101 (by decide) ?_
          exact ih ls H locs ig53 z54 (lv_sub hl [0, 2] rfl) hw hsz (by omega) (by omega) (by intro j hj; rw [eig53, up2_a (by omega), eig51, eig44, eig37]; exact fill3 g35_2 (by omega) (by omega) (by omega) (by omega) (eq0 (by omega)) (eq0 (by omega)) (eq0 (by omega)) j (by omega)) (by rw [eig53, up2_a (by omega), eig51, up2_a (by omega), eig44, up2_a (by omega), eig37, up2_a (by omega)]; exact hfc) (by rw [eig53, up2_a (by omega), eig51, up2_a (by omega), eig44, up2_a (by omega), eig37, up2_a (by omega)]; exact hfo) oig (by omega)
    exact L35 ((288 - z15.toInt) + 1).toNat ls H locs ig10 z15 (lv_sub hl [0, 1] rfl) hw hsz (by omega) (by omega) (fun j hj => absurd hj (by omega)) (hfc) (hfo) oig (by omega)
  · exact absurd c11 (by omega)

set_option maxHeartbeats 4000000 in
set_option maxRecDepth 100000 in
theorem t_X9_exponentAt (l : Launch) (B : Nat) (D : va_G) (cA : Nat → ClassId) (kd : sK) (ig : sI) (rg : sR) (lg : sG) (sz : Nat) (x y : Int32) (hsh : Sh B kd) (hrs : Rs B rg) (hf : ∀ j : Nat, j < 864 → ig (B + 33) j = 0) : MC l B D cA yX9_exponentAt cX9_exponentAt 3 (some .int) (rL 1 0 0) [.ref (B + 32), .int x, .int y] kd ig rg lg sz (Pu kd ig rg lg sz (fun r => ∃ z : Int32, r = some (.int z) ∧ z.toInt = 0)) := by
  refine MC.of (own := RX9) (by decide +kernel) rfl (Nat.le_of_ble_eq_true rfl) ?_
  intro p e s m args below meth c ls C hr hlk hnm hw hsz hl
  have hx := C.1.1
  have hb := C.1.2.1
  have hown := C.1.2.2.2.1
  have hts := C.1.2.2.2.2
  have hl : lv_has ls 3 [(0, .ref (B + 32)), (1, .int x), (2, .int y)] := hl
  refine lv_iload_n hx hb dX9_exponentAt_0 rfl (lv_at hl 1 rfl) ?_
  refine r_callN (As := [.int x]) (rest := []) C hw (t_X11_onSheet l B D cA kd ig rg lg _ x) sn_X9_72 rfl hl.1 rfl (Nat.le_of_ble_eq_true rfl) ⟨Nat.le_of_ble_eq_true rfl, Nat.le_of_ble_eq_true rfl⟩ ⟨Nat.le_of_ble_eq_true rfl, Nat.le_of_ble_eq_true rfl⟩ dX9_exponentAt_1 (fun r6 kd2 ig3 rg4 lg5 H locs hw hH hp7 => ?_)
  obtain ⟨rfl, rfl, rfl, rfl, hzz1, z1, rfl, hz1⟩ := hp7
  have hsz := hzz1.trans hsz
  refine z_eq (tgt := 29) hx hb dX9_exponentAt_4 (by decide) (fun c4 => ?_) (fun c4 => ?_)
  · refine lv_iconst (v := 0) hx hb dX9_exponentAt_29 (by decide) (ti_c 0 (by decide) fun z8 hz8 => ?_)
    exact r_iret C hw hr hlk rfl (Nat.le_of_ble_eq_true rfl) (Nat.le_of_ble_eq_true rfl) dX9_exponentAt_30 ⟨rfl, rfl, rfl, rfl, hsz, _, rfl, by omega⟩
  · refine lv_iload_n hx hb dX9_exponentAt_7 rfl (lv_at hl 2 rfl) ?_
    refine z_lt (tgt := 29) hx hb dX9_exponentAt_8 (by decide) (fun c8 => ?_) (fun c8 => ?_)
    · refine lv_iconst (v := 0) hx hb dX9_exponentAt_29 (by decide) (ti_c 0 (by decide) fun z9 hz9 => ?_)
      exact r_iret C hw hr hlk rfl (Nat.le_of_ble_eq_true rfl) (Nat.le_of_ble_eq_true rfl) dX9_exponentAt_30 ⟨rfl, rfl, rfl, rfl, hsz, _, rfl, by omega⟩
    · refine lv_iload_n hx hb dX9_exponentAt_11 rfl (lv_at hl 2 rfl) ?_
      refine lv_iconst (v := 3) hx hb dX9_exponentAt_12 (by decide) (ti_c 3 (by decide) fun z10 hz10 => ?_)
      refine b_ge (tgt := 29) hx hb dX9_exponentAt_13 (by decide) (fun c13 => ?_) (fun c13 => ?_)
      · refine lv_iconst (v := 0) hx hb dX9_exponentAt_29 (by decide) (ti_c 0 (by decide) fun z11 hz11 => ?_)
        exact r_iret C hw hr hlk rfl (Nat.le_of_ble_eq_true rfl) (Nat.le_of_ble_eq_true rfl) dX9_exponentAt_30 ⟨rfl, rfl, rfl, rfl, hsz, _, rfl, by omega⟩
      · refine lv_aload_n hx hb dX9_exponentAt_16 rfl (lv_at hl 0 rfl) ?_
        refine r_get C hw (hsh 32 _ rfl) fl_X9_19 (oV_r rfl (hrs (32, 2, 33) (by decide))) dX9_exponentAt_17 ?_
        refine lv_iload_n hx hb dX9_exponentAt_20 rfl (lv_at hl 1 rfl) ?_
        refine lv_iconst (v := 3) hx hb dX9_exponentAt_21 (by decide) (ti_c 3 (by decide) fun z12 hz12 => ?_)
        refine lv_imul hx hb dX9_exponentAt_22 (ti_mulR 3 hz12 (by omega) fun z13 hz13 => ?_)
        refine lv_iload_n hx hb dX9_exponentAt_23 rfl (lv_at hl 2 rfl) ?_
        refine lv_iadd hx hb dX9_exponentAt_24 (ti_add (by omega) fun z14 hz14 => ?_)
        refine r_iald C hw (hsh 33 _ rfl) (by omega) (by omega) dX9_exponentAt_25 (ti_c (ig (B + 33) z14.toInt.toNat).toInt rfl fun z15 hz15 => ?_)
        have k := z0 (hf (z14.toInt.toNat) (by omega))
        refine lv_goto (tgt := 30) hx hb dX9_exponentAt_26 (by decide) ?_
        exact r_iret C hw hr hlk rfl (Nat.le_of_ble_eq_true rfl) (Nat.le_of_ble_eq_true rfl) dX9_exponentAt_30 ⟨rfl, rfl, rfl, rfl, hsz, _, rfl, by omega⟩

set_option maxHeartbeats 4000000 in
set_option maxRecDepth 100000 in
theorem t_X8_settle (l : Launch) (B : Nat) (D : va_G) (cA : Nat → ClassId) (kd : sK) (ig : sI) (rg : sR) (lg : sG) (sz : Nat) (F : FS B kd ig rg) (hv : ig (B + 37) 7 = -1) (hfc : ig (B + 15) 2 = 0) (hfo : ig (B + 15) 9 = 0) : MC l B D cA yX8_settle cX8_settle 3 none (rL 4 0 0) [.ref (B + 37)] kd ig rg lg sz (fun r kd' ig' rg' lg' n => kd = kd' ∧ rg = rg' ∧ Off B 17 18 lg' lg ∧ n = sz ∧ (r = none) ∧ Off B 15 43 ig' ig ∧ ig' (B + 15) 2 = 0 ∧ ig' (B + 15) 9 = 0 ∧ (∀ j : Nat, j < 288 → ig' (B + 38) j = 0)) := by
  refine MC.of (own := RX8) (by decide +kernel) rfl (Nat.le_of_ble_eq_true rfl) ?_
  intro p e s m args below meth c ls C hr hlk hnm hw hsz hl
  have hx := C.1.1
  have hb := C.1.2.1
  have hown := C.1.2.2.2.1
  have hts := C.1.2.2.2.2
  have hl : lv_has ls 3 [(0, .ref (B + 37))] := hl
  have Fs := F
  obtain ⟨hsh, hrs, hce, hbf, hbi, hsi, hke⟩ := F
  have oig : Off B 15 43 ig ig := Off.rf
  have olg : Off B 17 18 lg lg := Off.rf
  refine lv_aload_n hx hb dX8_settle_0 rfl (lv_at hl 0 rfl) ?_
  refine r_get C hw (hsh 37 _ rfl) fl_X8_37 (oV_i rfl) dX8_settle_1 (ti_c (ig (B + 37) 7).toInt rfl fun z1 hz1 => ?_)
  have k2 : (ig (B + 37) (7)).toInt = -1 := by exact zm1 (hv)
  refine lv_aload_n hx hb dX8_settle_4 rfl (lv_at hl 0 rfl) ?_
  refine r_get C hw (hsh 37 _ rfl) fl_X8_9 (oV_r rfl (hrs (37, 0, 9) (by decide))) dX8_settle_5 ?_
  refine r_get C hw (hsh 9 _ rfl) fl_X8_41 (oV_i rfl) dX8_settle_8 (ti_c (ig (B + 9) 6).toInt rfl fun z3 hz3 => ?_)
  have k4 : (ig (B + 9) (6)).toInt = 0 := z0 (Fs.si (6))
  refine b_ne (tgt := 15) hx hb dX8_settle_11 (by decide) (fun c11 => ?_) (fun c11 => ?_)
  · refine lv_aload_n hx hb dX8_settle_15 rfl (lv_at hl 0 rfl) ?_
    refine lv_aload_n hx hb dX8_settle_16 rfl (lv_at hl 0 rfl) ?_
    refine r_get C hw (hsh 37 _ rfl) fl_X8_9 (oV_r rfl (hrs (37, 0, 9) (by decide))) dX8_settle_17 ?_
    refine r_get C hw (hsh 9 _ rfl) fl_X8_41 (oV_i rfl) dX8_settle_20 (ti_c (ig (B + 9) 6).toInt rfl fun z5 hz5 => ?_)
    have k6 : (ig (B + 9) (6)).toInt = 0 := z0 (Fs.si (6))
    refine r_puti C hw (hsh 37 _ rfl) fl_X8_37 rfl rfl rfl dX8_settle_23 (fun H locs hH hw => ?_)
    obtain ⟨ig7, eig7⟩ : ∃ f, f = up2 ig (B + 37) 7 z5 := ⟨_, rfl⟩
    rw [← eig7] at hw
    have hsz := hH.trans hsz
    have oig : Off B 15 43 ig7 ig := fun a j h => by rw [eig7]; exact (up2_a (by omega)).trans (oig a j h)
    refine lv_aload_n hx hb dX8_settle_26 rfl (lv_at hl 0 rfl) ?_
    refine r_get C hw (hsh 37 _ rfl) fl_X8_15 (oV_r rfl (hrs (37, 1, 15) (by decide))) dX8_settle_27 ?_
    refine r_callV (As := []) (rest := []) C hw (t_X5_settle l B D cA kd ig7 rg lg _ (FS.off Fs oig (by decide)) (by rw [eig7, up2_a (by omega)]; exact hfc) (by rw [eig7, up2_a (by omega)]; exact hfo)) sv_X8_44 (hsh 15 _ rfl) rfl hl.1 rfl (Nat.le_of_ble_eq_true rfl) ⟨Nat.le_of_ble_eq_true rfl, Nat.le_of_ble_eq_true rfl⟩ ⟨Nat.le_of_ble_eq_true rfl, Nat.le_of_ble_eq_true rfl⟩ dX8_settle_30 (fun r13 kd9 ig10 rg11 lg12 H locs hw hH hp14 => ?_)
    obtain ⟨rfl, rfl, la8, hq8, rfl, oa8, hfc, hfo⟩ := hp14
    have hsz := hq8.trans hsz
    have oig := Off.tr (lo := 15) (hi := 43) oa8 oig (by decide) (by decide)
    have olg := Off.tr (lo := 17) (hi := 18) la8 olg (by decide) (by decide)
    refine lv_iconst (v := 0) hx hb dX8_settle_33 (by decide) (ti_c 0 (by decide) fun z15 hz15 => ?_)
    refine lv_istore_n (lv' := [(1, .int z15), (0, .ref (B + 37))]) hx hb dX8_settle_34 rfl hl (by decide) rfl (fun ls hl => ?_)
    have L35 : ∀ (n : Nat) (ls : Array Slot) (H : Heap) (locs : List Loc) (ig17 : sI) (v16 : Int32), lv_has ls 3 [(1, .int v16), (0, .ref (B + 37))] → WD B D cA s.heap kd ig17 rg lg12 H locs → H.size = sz → (0 ≤ v16.toInt) → (v16.toInt ≤ 288) → (∀ j : Nat, (j : Int) < v16.toInt → ig17 (B + 38) j = 0) → (ig17 (B + 15) 2 = 0) → (ig17 (B + 15) 9 = 0) → (Off B 15 43 ig17 ig) → 288 - v16.toInt < (n : Int) → W p l e (rL 4 0 0) s m args below meth c H locs 0 0 (MQ below (QcW B D cA (fun r kd' ig' rg' lg' n => kd = kd' ∧ rg = rg' ∧ Off B 17 18 lg' lg ∧ n = sz ∧ (r = none) ∧ Off B 15 43 ig' ig ∧ ig' (B + 15) 2 = 0 ∧ ig' (B + 15) 9 = 0 ∧ (∀ j : Nat, j < 288 → ig' (B + 38) j = 0))) args s 0 0 (fun q => B ≤ q)) (F0 m 35 ls []) := by
      intro n
      induction n with
      | zero => intro ls H locs ig17 v16 hl hw hsz g35_0 g35_1 g35_2 g35_3 g35_4 g35_5 hmu; exact absurd hmu (by omega)
      | succ n ih =>
        intro ls H locs ig17 v16 hl hw hsz g35_0 g35_1 g35_2 g35_3 g35_4 g35_5 hmu
        have oig := g35_5
        have hfc := g35_3
        have hfo := g35_4
        refine lv_iload_n hx hb dX8_settle_35 rfl (lv_at hl 0 rfl) ?_
        refine lv_sipush (v := 288) hx hb dX8_settle_36 (by decide) (ti_c 288 (by decide) fun z18 hz18 => ?_)
        refine b_ge (tgt := 90) hx hb dX8_settle_39 (by decide) (fun c39 => ?_) (fun c39 => ?_)
        · exact r_vret C hw hr hlk (Nat.le_of_ble_eq_true rfl) (Nat.le_of_ble_eq_true rfl) dX8_settle_90 ⟨rfl, rfl, olg, hsz, rfl, oig, hfc, hfo, fun j hj => g35_2 j (by omega)⟩
        · refine lv_aload_n hx hb dX8_settle_42 rfl (lv_at hl 1 rfl) ?_
          refine r_get C hw (hsh 37 _ rfl) fl_X8_9 (oV_r rfl (hrs (37, 0, 9) (by decide))) dX8_settle_43 ?_
          refine lv_iload_n hx hb dX8_settle_46 rfl (lv_at hl 0 rfl) ?_
          refine r_callV (As := [.int v16]) (rest := []) C hw (t_X6_formulaAt l B D cA kd ig17 rg lg12 _ v16 (FS.off Fs oig (by decide))) sv_X8_49 (hsh 9 _ rfl) rfl hl.1 rfl (Nat.le_of_ble_eq_true rfl) ⟨Nat.le_of_ble_eq_true rfl, Nat.le_of_ble_eq_true rfl⟩ ⟨Nat.le_of_ble_eq_true rfl, Nat.le_of_ble_eq_true rfl⟩ dX8_settle_47 (fun r23 kd19 ig20 rg21 lg22 H locs hw hH hp24 => ?_)
          obtain ⟨rfl, rfl, rfl, rfl, hzhp24, rfl⟩ := hp24
          have hsz := hzhp24.trans hsz
          refine lv_astore_nN (lv' := [(2, .null), (1, .int v16), (0, .ref (B + 37))]) hx hb dX8_settle_50 rfl hl (by decide) rfl (fun ls hl => ?_)
          refine lv_aload_n hx hb dX8_settle_51 rfl (lv_at hl 2 rfl) ?_
          refine r_get C hw (hsh 37 _ rfl) fl_X8_19 (oV_r rfl (hrs (37, 2, 38) (by decide))) dX8_settle_52 ?_
          refine lv_iload_n hx hb dX8_settle_55 rfl (lv_at hl 1 rfl) ?_
          refine lv_aload_nN hx hb dX8_settle_56 rfl (lv_at hl 0 rfl) ?_
          refine lv_ifnullN (tgt := 82) hx hb dX8_settle_57 (by decide) ?_
          refine lv_iconst (v := 0) hx hb dX8_settle_82 (by decide) (ti_c 0 (by decide) fun z25 hz25 => ?_)
          refine r_zast C hw (hsh 38 _ rfl) (by omega) (by omega) (nar_b (by omega)) dX8_settle_83 (fun H locs hH hw => ?_)
          obtain ⟨ig26, eig26⟩ : ∃ f, f = up2 ig17 (B + 38) v16.toInt.toNat z25 := ⟨_, rfl⟩
          rw [← eig26] at hw
          have hsz := hH.trans hsz
          have oig : Off B 15 43 ig26 ig := fun a j h => by rw [eig26]; exact (up2_a (by omega)).trans (oig a j h)
          refine ti_inc hx hb dX8_settle_84 hl (k := 1) rfl (by decide) (by decide) (by omega) (fun z27 hz27 ls hl => ?_)
          have hl : lv_has ls 3 [(1, .int z27), (2, .null), (0, .ref (B + 37))] := hl
          refine lv_goto (tgt := 35) hx hb dX8_settle_87 (by decide) ?_
          exact ih ls H locs ig26 z27 (lv_sub hl [0, 2] rfl) hw hsz (by omega) (by omega) (by intro j hj; rw [eig26]; exact fill1 g35_2 (by omega) (eq0 (by omega)) j (by omega)) (by rw [eig26, up2_a (by omega)]; exact hfc) (by rw [eig26, up2_a (by omega)]; exact hfo) oig (by omega)
    exact L35 ((288 - z15.toInt) + 1).toNat ls H locs ig10 z15 (lv_sub hl [0, 1] rfl) hw hsz (by omega) (by omega) (fun j hj => absurd hj (by omega)) (hfc) (hfo) oig (by omega)
  · exact absurd c11 (by omega)

set_option maxHeartbeats 4000000 in
set_option maxRecDepth 100000 in
theorem t_X8_isTotal (l : Launch) (B : Nat) (D : va_G) (cA : Nat → ClassId) (kd : sK) (ig : sI) (rg : sR) (lg : sG) (sz : Nat) (x : Int32) (hsh : Sh B kd) (hrs : Rs B rg) (hf : ∀ j : Nat, j < 288 → ig (B + 38) j = 0) : MC l B D cA yX8_isTotal cX8_isTotal 2 (some .boolean) (rL 1 0 0) [.ref (B + 37), .int x] kd ig rg lg sz (Pu kd ig rg lg sz (fun r => ∃ z : Int32, r = some (.int z) ∧ z.toInt = 0)) := by
  refine MC.of (own := RX8) (by decide +kernel) rfl (Nat.le_of_ble_eq_true rfl) ?_
  intro p e s m args below meth c ls C hr hlk hnm hw hsz hl
  have hx := C.1.1
  have hb := C.1.2.1
  have hown := C.1.2.2.2.1
  have hts := C.1.2.2.2.2
  have hl : lv_has ls 2 [(0, .ref (B + 37)), (1, .int x)] := hl
  refine lv_iload_n hx hb dX8_isTotal_0 rfl (lv_at hl 1 rfl) ?_
  refine r_callN (As := [.int x]) (rest := []) C hw (t_X11_onSheet l B D cA kd ig rg lg _ x) sn_X8_63 rfl hl.1 rfl (Nat.le_of_ble_eq_true rfl) ⟨Nat.le_of_ble_eq_true rfl, Nat.le_of_ble_eq_true rfl⟩ ⟨Nat.le_of_ble_eq_true rfl, Nat.le_of_ble_eq_true rfl⟩ dX8_isTotal_1 (fun r6 kd2 ig3 rg4 lg5 H locs hw hH hp7 => ?_)
  obtain ⟨rfl, rfl, rfl, rfl, hzz1, z1, rfl, hz1⟩ := hp7
  have hsz := hzz1.trans hsz
  refine z_eq (tgt := 20) hx hb dX8_isTotal_4 (by decide) (fun c4 => ?_) (fun c4 => ?_)
  · refine lv_iconst (v := 0) hx hb dX8_isTotal_20 (by decide) (ti_c 0 (by decide) fun z8 hz8 => ?_)
    exact r_iret C hw hr hlk (nar_b (by omega)) (Nat.le_of_ble_eq_true rfl) (Nat.le_of_ble_eq_true rfl) dX8_isTotal_21 ⟨rfl, rfl, rfl, rfl, hsz, _, rfl, by omega⟩
  · refine lv_aload_n hx hb dX8_isTotal_7 rfl (lv_at hl 0 rfl) ?_
    refine r_get C hw (hsh 37 _ rfl) fl_X8_19 (oV_r rfl (hrs (37, 2, 38) (by decide))) dX8_isTotal_8 ?_
    refine lv_iload_n hx hb dX8_isTotal_11 rfl (lv_at hl 1 rfl) ?_
    refine r_zald C hw (hsh 38 _ rfl) (by omega) (by omega) dX8_isTotal_12 (ti_c (ig (B + 38) x.toInt.toNat).toInt rfl fun z9 hz9 => ?_)
    have k := z0 (hf (x.toInt.toNat) (by omega))
    refine z_eq (tgt := 20) hx hb dX8_isTotal_13 (by decide) (fun c13 => ?_) (fun c13 => ?_)
    · refine lv_iconst (v := 0) hx hb dX8_isTotal_20 (by decide) (ti_c 0 (by decide) fun z10 hz10 => ?_)
      exact r_iret C hw hr hlk (nar_b (by omega)) (Nat.le_of_ble_eq_true rfl) (Nat.le_of_ble_eq_true rfl) dX8_isTotal_21 ⟨rfl, rfl, rfl, rfl, hsz, _, rfl, by omega⟩
    · exact absurd c13 (by omega)

set_option maxHeartbeats 4000000 in
set_option maxRecDepth 100000 in
theorem t_X8_gatherTwice (l : Launch) (B : Nat) (D : va_G) (cA : Nat → ClassId) (kd : sK) (ig : sI) (rg : sR) (lg : sG) (sz : Nat) (hsh : Sh B kd) (hrs : Rs B rg) (hfo : ig (B + 15) 9 = 0) : MC l B D cA yX8_gatherTwice cX8_gatherTwice 4 none (rL 1 0 0) [.ref (B + 37)] kd ig rg lg sz (Pu kd ig rg lg sz (fun r => r = none)) := by
  refine MC.of (own := RX8) (by decide +kernel) rfl (Nat.le_of_ble_eq_true rfl) ?_
  intro p e s m args below meth c ls C hr hlk hnm hw hsz hl
  have hx := C.1.1
  have hb := C.1.2.1
  have hown := C.1.2.2.2.1
  have hts := C.1.2.2.2.2
  have hl : lv_has ls 4 [(0, .ref (B + 37))] := hl
  refine lv_iconst (v := 0) hx hb dX8_gatherTwice_0 (by decide) (ti_c 0 (by decide) fun z1 hz1 => ?_)
  refine lv_istore_n (lv' := [(1, .int z1), (0, .ref (B + 37))]) hx hb dX8_gatherTwice_1 rfl hl (by decide) rfl (fun ls hl => ?_)
  refine lv_iload_n hx hb dX8_gatherTwice_2 rfl (lv_at hl 0 rfl) ?_
  refine lv_aload_n hx hb dX8_gatherTwice_3 rfl (lv_at hl 1 rfl) ?_
  refine r_get C hw (hsh 37 _ rfl) fl_X8_15 (oV_r rfl (hrs (37, 1, 15) (by decide))) dX8_gatherTwice_4 ?_
  refine r_callV (As := []) (rest := [.int z1]) C hw (t_X5_orderSize l B D cA kd ig rg lg _ hsh hfo) sv_X8_73 (hsh 15 _ rfl) rfl hl.1 rfl (Nat.le_of_ble_eq_true rfl) ⟨Nat.le_of_ble_eq_true rfl, Nat.le_of_ble_eq_true rfl⟩ ⟨Nat.le_of_ble_eq_true rfl, Nat.le_of_ble_eq_true rfl⟩ dX8_gatherTwice_7 (fun r7 kd3 ig4 rg5 lg6 H locs hw hH hp8 => ?_)
  obtain ⟨rfl, rfl, rfl, rfl, hzz2, z2, rfl, hz2⟩ := hp8
  have hsz := hzz2.trans hsz
  refine b_ge (tgt := 60) hx hb dX8_gatherTwice_10 (by decide) (fun c10 => ?_) (fun c10 => ?_)
  · exact r_vret C hw hr hlk (Nat.le_of_ble_eq_true rfl) (Nat.le_of_ble_eq_true rfl) dX8_gatherTwice_60 ⟨rfl, rfl, rfl, rfl, hsz, rfl⟩
  · exact absurd c10 (by omega)

set_option maxHeartbeats 4000000 in
set_option maxRecDepth 100000 in
theorem t_X3_gather (l : Launch) (B : Nat) (D : va_G) (cA : Nat → ClassId) (kd : sK) (ig : sI) (rg : sR) (lg : sG) (sz : Nat) (F : FS B kd ig rg) (hfo : ig (B + 15) 9 = 0) : MC l B D cA yX3_gather cX3_gather 2 (some .int) (rL 3 0 0) [.ref (B + 43)] kd ig rg lg sz (fun r kd' ig' rg' lg' n => kd = kd' ∧ rg = rg' ∧ lg = lg' ∧ n = sz ∧ (∃ z : Int32, r = some (.int z) ∧ z.toInt = 0) ∧ Off B 43 45 ig' ig) := by
  refine MC.of (own := RX3) (by decide +kernel) rfl (Nat.le_of_ble_eq_true rfl) ?_
  intro p e s m args below meth c ls C hr hlk hnm hw hsz hl
  have hx := C.1.1
  have hb := C.1.2.1
  have hown := C.1.2.2.2.1
  have hts := C.1.2.2.2.2
  have hl : lv_has ls 2 [(0, .ref (B + 43))] := hl
  have Fs := F
  obtain ⟨hsh, hrs, hce, hbf, hbi, hsi, hke⟩ := F
  have oig : Off B 43 45 ig ig := Off.rf
  refine lv_aload_n hx hb dX3_gather_0 rfl (lv_at hl 0 rfl) ?_
  refine lv_iconst (v := 0) hx hb dX3_gather_1 (by decide) (ti_c 0 (by decide) fun z1 hz1 => ?_)
  refine r_puti C hw (hsh 43 _ rfl) fl_X3_35 rfl rfl rfl dX3_gather_2 (fun H locs hH hw => ?_)
  obtain ⟨ig2, eig2⟩ : ∃ f, f = up2 ig (B + 43) 6 z1 := ⟨_, rfl⟩
  rw [← eig2] at hw
  have hsz := hH.trans hsz
  have oig : Off B 43 45 ig2 ig := fun a j h => by rw [eig2]; exact (up2_a (by omega)).trans (oig a j h)
  refine lv_aload_n hx hb dX3_gather_5 rfl (lv_at hl 0 rfl) ?_
  refine r_get C hw (hsh 43 _ rfl) fl_X3_27 (oV_r rfl (hrs (43, 4, 37) (by decide))) dX3_gather_6 ?_
  refine r_callV (As := []) (rest := []) C hw (t_X8_gatherTwice l B D cA kd ig2 rg lg _ hsh hrs (by rw [eig2, up2_a (by omega)]; exact hfo)) sv_X3_39 (hsh 37 _ rfl) rfl hl.1 rfl (Nat.le_of_ble_eq_true rfl) ⟨Nat.le_of_ble_eq_true rfl, Nat.le_of_ble_eq_true rfl⟩ ⟨Nat.le_of_ble_eq_true rfl, Nat.le_of_ble_eq_true rfl⟩ dX3_gather_9 (fun r7 kd3 ig4 rg5 lg6 H locs hw hH hp8 => ?_)
  obtain ⟨rfl, rfl, rfl, rfl, hzhp8, rfl⟩ := hp8
  have hsz := hzhp8.trans hsz
  refine lv_iconst (v := 0) hx hb dX3_gather_12 (by decide) (ti_c 0 (by decide) fun z9 hz9 => ?_)
  refine lv_istore_n (lv' := [(1, .int z9), (0, .ref (B + 43))]) hx hb dX3_gather_13 rfl hl (by decide) rfl (fun ls hl => ?_)
  have L14 : ∀ (n : Nat) (ls : Array Slot) (H : Heap) (locs : List Loc) (v10 : Int32), lv_has ls 2 [(1, .int v10), (0, .ref (B + 43))] → WD B D cA s.heap kd ig2 rg lg H locs → H.size = sz → (0 ≤ v10.toInt) → (v10.toInt ≤ 288) → 288 - v10.toInt < (n : Int) → W p l e (rL 3 0 0) s m args below meth c H locs 0 0 (MQ below (QcW B D cA (fun r kd' ig' rg' lg' n => kd = kd' ∧ rg = rg' ∧ lg = lg' ∧ n = sz ∧ (∃ z : Int32, r = some (.int z) ∧ z.toInt = 0) ∧ Off B 43 45 ig' ig)) args s 0 0 (fun q => B ≤ q)) (F0 m 14 ls []) := by
    intro n
    induction n with
    | zero => intro ls H locs v10 hl hw hsz g14_0 g14_1 hmu; exact absurd hmu (by omega)
    | succ n ih =>
      intro ls H locs v10 hl hw hsz g14_0 g14_1 hmu
      refine lv_iload_n hx hb dX3_gather_14 rfl (lv_at hl 0 rfl) ?_
      refine lv_sipush (v := 288) hx hb dX3_gather_15 (by decide) (ti_c 288 (by decide) fun z11 hz11 => ?_)
      refine b_ge (tgt := 43) hx hb dX3_gather_18 (by decide) (fun c18 => ?_) (fun c18 => ?_)
      · refine lv_aload_n hx hb dX3_gather_43 rfl (lv_at hl 1 rfl) ?_
        refine r_get C hw (hsh 43 _ rfl) fl_X3_35 (oV_i rfl) dX3_gather_44 (ti_c (ig2 (B + 43) 6).toInt rfl fun z12 hz12 => ?_)
        have k13 : (ig2 (B + 43) (6)).toInt = z1.toInt := by rw [eig2, up2_eq]
        exact r_iret C hw hr hlk rfl (Nat.le_of_ble_eq_true rfl) (Nat.le_of_ble_eq_true rfl) dX3_gather_47 ⟨rfl, rfl, rfl, hsz, ⟨_, rfl, by omega⟩, oig⟩
      · refine lv_aload_n hx hb dX3_gather_21 rfl (lv_at hl 1 rfl) ?_
        refine r_get C hw (hsh 43 _ rfl) fl_X3_9 (oV_r rfl (hrs (43, 0, 9) (by decide))) dX3_gather_22 ?_
        refine lv_iload_n hx hb dX3_gather_25 rfl (lv_at hl 0 rfl) ?_
        refine r_callV (As := [.int v10]) (rest := []) C hw (t_X6_kindAt l B D cA kd ig2 rg lg _ v10 (FS.off Fs oig (by decide))) sv_X3_44 (hsh 9 _ rfl) rfl hl.1 rfl (Nat.le_of_ble_eq_true rfl) ⟨Nat.le_of_ble_eq_true rfl, Nat.le_of_ble_eq_true rfl⟩ ⟨Nat.le_of_ble_eq_true rfl, Nat.le_of_ble_eq_true rfl⟩ dX3_gather_26 (fun r19 kd15 ig16 rg17 lg18 H locs hw hH hp20 => ?_)
        obtain ⟨rfl, rfl, rfl, rfl, hzz14, z14, rfl, hz14⟩ := hp20
        have hsz := hzz14.trans hsz
        refine z_eq (tgt := 37) hx hb dX3_gather_29 (by decide) (fun c29 => ?_) (fun c29 => ?_)
        · refine ti_inc hx hb dX3_gather_37 hl (k := 0) rfl (by decide) (by decide) (by omega) (fun z21 hz21 ls hl => ?_)
          have hl : lv_has ls 2 [(1, .int z21), (0, .ref (B + 43))] := hl
          refine lv_goto (tgt := 14) hx hb dX3_gather_40 (by decide) ?_
          exact ih ls H locs z21 (lv_sub hl [0, 1] rfl) hw hsz (by omega) (by omega) (by omega)
        · exact absurd c29 (by omega)
  exact L14 ((288 - z9.toInt) + 1).toNat ls H locs z9 (lv_sub hl [0, 1] rfl) hw hsz (by omega) (by omega) (by omega)

set_option maxHeartbeats 4000000 in
set_option maxRecDepth 100000 in
theorem t_X3_tell (l : Launch) (B : Nat) (D : va_G) (cA : Nat → ClassId) (kd : sK) (ig : sI) (rg : sR) (lg : sG) (sz : Nat) (x y : Int32) (hsh : Sh B kd) (hf : ig (B + 43) 6 = 0) : MC l B D cA yX3_tell cX3_tell 3 (some .int) (rL 0 0 0) [.ref (B + 43), .int x, .int y] kd ig rg lg sz (Pu kd ig rg lg sz (fun r => ∃ z : Int32, r = some (.int z) ∧ z.toInt = -1)) := by
  refine MC.of (own := RX3) (by decide +kernel) rfl (Nat.le_of_ble_eq_true rfl) ?_
  intro p e s m args below meth c ls C hr hlk hnm hw hsz hl
  have hx := C.1.1
  have hb := C.1.2.1
  have hown := C.1.2.2.2.1
  have hts := C.1.2.2.2.2
  have hl : lv_has ls 3 [(0, .ref (B + 43)), (1, .int x), (2, .int y)] := hl
  refine lv_iload_n hx hb dX3_tell_0 rfl (lv_at hl 1 rfl) ?_
  refine z_lt (tgt := 28) hx hb dX3_tell_1 (by decide) (fun c1 => ?_) (fun c1 => ?_)
  · refine lv_iconst (v := (-1)) hx hb dX3_tell_28 (by decide) (ti_c (-1) (by decide) fun z1 hz1 => ?_)
    exact r_iret C hw hr hlk rfl (Nat.le_of_ble_eq_true rfl) (Nat.le_of_ble_eq_true rfl) dX3_tell_29 ⟨rfl, rfl, rfl, rfl, hsz, _, rfl, by omega⟩
  · refine lv_iload_n hx hb dX3_tell_4 rfl (lv_at hl 1 rfl) ?_
    refine lv_aload_n hx hb dX3_tell_5 rfl (lv_at hl 0 rfl) ?_
    refine r_get C hw (hsh 43 _ rfl) fl_X3_35 (oV_i rfl) dX3_tell_6 (ti_c (ig (B + 43) 6).toInt rfl fun z2 hz2 => ?_)
    have k3 : (ig (B + 43) (6)).toInt = 0 := by exact z0 (hf)
    refine b_ge (tgt := 28) hx hb dX3_tell_9 (by decide) (fun c9 => ?_) (fun c9 => ?_)
    · refine lv_iconst (v := (-1)) hx hb dX3_tell_28 (by decide) (ti_c (-1) (by decide) fun z4 hz4 => ?_)
      exact r_iret C hw hr hlk rfl (Nat.le_of_ble_eq_true rfl) (Nat.le_of_ble_eq_true rfl) dX3_tell_29 ⟨rfl, rfl, rfl, rfl, hsz, _, rfl, by omega⟩
    · exact absurd c9 (by omega)

set_option maxHeartbeats 4000000 in
set_option maxRecDepth 100000 in
theorem t_X1_tell (l : Launch) (B : Nat) (D : va_G) (cA : Nat → ClassId) (kd : sK) (ig : sI) (rg : sR) (lg : sG) (sz : Nat) (x y : Int32) (hsh : Sh B kd) (hf : ig (B + 45) 4 = 0) : MC l B D cA yX1_tell cX1_tell 3 (some .int) (rL 0 0 0) [.ref (B + 45), .int x, .int y] kd ig rg lg sz (Pu kd ig rg lg sz (fun r => ∃ z : Int32, r = some (.int z) ∧ z.toInt = -1)) := by
  refine MC.of (own := RX1) (by decide +kernel) rfl (Nat.le_of_ble_eq_true rfl) ?_
  intro p e s m args below meth c ls C hr hlk hnm hw hsz hl
  have hx := C.1.1
  have hb := C.1.2.1
  have hown := C.1.2.2.2.1
  have hts := C.1.2.2.2.2
  have hl : lv_has ls 3 [(0, .ref (B + 45)), (1, .int x), (2, .int y)] := hl
  refine lv_iload_n hx hb dX1_tell_0 rfl (lv_at hl 1 rfl) ?_
  refine z_lt (tgt := 28) hx hb dX1_tell_1 (by decide) (fun c1 => ?_) (fun c1 => ?_)
  · refine lv_iconst (v := (-1)) hx hb dX1_tell_28 (by decide) (ti_c (-1) (by decide) fun z1 hz1 => ?_)
    exact r_iret C hw hr hlk rfl (Nat.le_of_ble_eq_true rfl) (Nat.le_of_ble_eq_true rfl) dX1_tell_29 ⟨rfl, rfl, rfl, rfl, hsz, _, rfl, by omega⟩
  · refine lv_iload_n hx hb dX1_tell_4 rfl (lv_at hl 1 rfl) ?_
    refine lv_aload_n hx hb dX1_tell_5 rfl (lv_at hl 0 rfl) ?_
    refine r_get C hw (hsh 45 _ rfl) fl_X1_25 (oV_i rfl) dX1_tell_6 (ti_c (ig (B + 45) 4).toInt rfl fun z2 hz2 => ?_)
    have k3 : (ig (B + 45) (4)).toInt = 0 := by exact z0 (hf)
    refine b_ge (tgt := 28) hx hb dX1_tell_9 (by decide) (fun c9 => ?_) (fun c9 => ?_)
    · refine lv_iconst (v := (-1)) hx hb dX1_tell_28 (by decide) (ti_c (-1) (by decide) fun z4 hz4 => ?_)
      exact r_iret C hw hr hlk rfl (Nat.le_of_ble_eq_true rfl) (Nat.le_of_ble_eq_true rfl) dX1_tell_29 ⟨rfl, rfl, rfl, rfl, hsz, _, rfl, by omega⟩
    · exact absurd c9 (by omega)

set_option maxHeartbeats 4000000 in
set_option maxRecDepth 100000 in
theorem t_X1_forget (l : Launch) (B : Nat) (D : va_G) (cA : Nat → ClassId) (kd : sK) (ig : sI) (rg : sR) (lg : sG) (sz : Nat) (hsh : Sh B kd) : MC l B D cA yX1_forget cX1_forget 1 none (rL 0 0 0) [.ref (B + 45)] kd ig rg lg sz (fun r kd' ig' rg' lg' n => kd = kd' ∧ rg = rg' ∧ lg = lg' ∧ n = sz ∧ (r = none) ∧ Off B 45 49 ig' ig) := by
  refine MC.of (own := RX1) (by decide +kernel) rfl (Nat.le_of_ble_eq_true rfl) ?_
  intro p e s m args below meth c ls C hr hlk hnm hw hsz hl
  have hx := C.1.1
  have hb := C.1.2.1
  have hown := C.1.2.2.2.1
  have hts := C.1.2.2.2.2
  have hl : lv_has ls 1 [(0, .ref (B + 45))] := hl
  have oig : Off B 45 49 ig ig := Off.rf
  refine lv_aload_n hx hb dX1_forget_0 rfl (lv_at hl 0 rfl) ?_
  refine lv_iconst (v := 0) hx hb dX1_forget_1 (by decide) (ti_c 0 (by decide) fun z1 hz1 => ?_)
  refine r_puti C hw (hsh 45 _ rfl) fl_X1_25 rfl rfl rfl dX1_forget_2 (fun H locs hH hw => ?_)
  obtain ⟨ig2, eig2⟩ : ∃ f, f = up2 ig (B + 45) 4 z1 := ⟨_, rfl⟩
  rw [← eig2] at hw
  have hsz := hH.trans hsz
  have oig : Off B 45 49 ig2 ig := fun a j h => by rw [eig2]; exact (up2_a (by omega)).trans (oig a j h)
  exact r_vret C hw hr hlk (Nat.le_of_ble_eq_true rfl) (Nat.le_of_ble_eq_true rfl) dX1_forget_5 ⟨rfl, rfl, rfl, hsz, rfl, oig⟩
end
section
/-- the i-th sign of eight, the highest first -/
def sh8 (i : Nat) : Int32 := Int32.ofInt (56 - 8 * (i : Int))
theorem sh8_toInt {i : Nat} (h : i ≤ 8) : (sh8 i).toInt = 56 - 8 * (i : Int) := by
  have h2 : ∀ i : Nat, i ≤ 8 → (sh8 i).toInt = 56 - 8 * (i : Int) := by decide
  exact h2 i h
def by8 (x : Int64) (i : Nat) : Int32 := (x.toUInt64 >>> ((sh8 i).toInt64.toUInt64 &&& Int64.toUInt64 63)).toInt64.toInt32 &&& 255
def cn (f : Nat → Int32) : Nat → Nat
  | 0 => 0
  | i + 1 => cn f i + if 32 ≤ (f i).toInt ∧ (f i).toInt ≤ 126 then 1 else 0
theorem cn_le (f : Nat → Int32) : ∀ i, cn f i ≤ i
  | 0 => Nat.le_refl 0
  | i + 1 => by
    have h := cn_le f i
    unfold cn
    split <;> omega
/-- the tape where one token stands, the end -/
def TS (B : Nat) (ig : sI) : Prop := ig (B + 1) 7 = 0 ∧ ig (B + 1) 6 = 1 ∧ ig (B + 3) 0 = 0 ∧ ig (B + 5) 0 = 0
theorem zz1 {x : Int32} (h : x = 1) : x.toInt = 1 := by rw [h]; rfl
theorem eq1 {v : Int32} (h : v.toInt = 1) : v = 1 := i32_inj (h.trans rfl)

set_option maxHeartbeats 4000000 in
set_option maxRecDepth 100000 in
theorem t_X7_append (l : Launch) (B : Nat) (D : va_G) (cA : Nat → ClassId) (kd : sK) (ig : sI) (rg : sR) (lg : sG) (sz : Nat) (x : Int64) (hsh : Sh B kd) (hrs : Rs B rg) (hle : 0 ≤ (ig (B + 1) 1).toInt ∧ (ig (B + 1) 1).toInt ≤ 112) : MC l B D cA yX7_append cX7_append 5 none (rL 0 0 0) [.ref (B + 1), .long x] kd ig rg lg sz (fun r kd' ig' rg' lg' n => kd = kd' ∧ rg = rg' ∧ lg = lg' ∧ n = sz ∧ (r = none) ∧ Off B 1 3 ig' ig ∧ (ig' (B + 1) 1).toInt = (ig (B + 1) 1).toInt + (cn (by8 x) 8 : Nat)) := by
  refine MC.of (own := RX7) (by decide +kernel) rfl (Nat.le_of_ble_eq_true rfl) ?_
  intro p e s m args below meth c ls C hr hlk hnm hw hsz hl
  have hx := C.1.1
  have hb := C.1.2.1
  have hown := C.1.2.2.2.1
  have hts := C.1.2.2.2.2
  have hl : lv_has ls 5 [(0, .ref (B + 1)), (1, .long x)] := hl
  have oig : Off B 1 3 ig ig := Off.rf
  refine lv_bipush (v := 56) hx hb dX7_append_0 (by decide) (ti_c 56 (by decide) fun z1 hz1 => ?_)
  refine lv_istore_n (lv' := [(3, .int z1), (0, .ref (B + 1)), (1, .long x)]) hx hb dX7_append_2 rfl hl (by decide) rfl (fun ls hl => ?_)
  have L3 : ∀ (n : Nat) (ls : Array Slot) (H : Heap) (locs : List Loc) (ig3 : sI) (v2 : Int32), lv_has ls 5 [(3, .int v2), (0, .ref (B + 1)), (1, .long x)] → WD B D cA s.heap kd ig3 rg lg H locs → H.size = sz → (∃ i : Nat, i ≤ 8 ∧ v2.toInt = 56 - 8 * (i : Int) ∧ (ig3 (B + 1) 1).toInt = (ig (B + 1) 1).toInt + (cn (by8 x) i : Nat)) → (Off B 1 3 ig3 ig) → v2.toInt + 8 < (n : Int) → W p l e (rL 0 0 0) s m args below meth c H locs 0 0 (MQ below (QcW B D cA (fun r kd' ig' rg' lg' n => kd = kd' ∧ rg = rg' ∧ lg = lg' ∧ n = sz ∧ (r = none) ∧ Off B 1 3 ig' ig ∧ (ig' (B + 1) 1).toInt = (ig (B + 1) 1).toInt + (cn (by8 x) 8 : Nat))) args s 0 0 (fun q => B ≤ q)) (F0 m 3 ls []) := by
    intro n
    induction n with
    | zero => intro ls H locs ig3 v2 hl hw hsz g3_0 g3_1 hmu; exact absurd hmu (by omega)
    | succ n ih =>
      intro ls H locs ig3 v2 hl hw hsz g3_0 g3_1 hmu
      have oig := g3_1
      obtain ⟨i, hi8, hs3, hlen⟩ := g3_0
      have hcn := cn_le (by8 x) i
      refine lv_iload_n hx hb dX7_append_3 rfl (lv_at hl 0 rfl) ?_
      refine z_lt (tgt := 68) hx hb dX7_append_4 (by decide) (fun c4 => ?_) (fun c4 => ?_)
      · exact r_vret C hw hr hlk (Nat.le_of_ble_eq_true rfl) (Nat.le_of_ble_eq_true rfl) dX7_append_68 ⟨rfl, rfl, rfl, hsz, rfl, oig, by rw [hlen]; rw [show i = 8 by omega]⟩
      · refine lv_lload_n hx hb dX7_append_7 rfl (lv_at hl 2 rfl) ?_
        refine lv_iload_n hx hb dX7_append_8 rfl (lv_at hl 0 rfl) ?_
        refine lv_lushr hx hb dX7_append_9 rfl (lv_topl fun x4 hx4 => ?_)
        refine lv_l2i hx hb dX7_append_10 rfl (lv_topi fun z5 hz5 => ?_)
        refine lv_sipush (v := 255) hx hb dX7_append_11 (by decide) (ti_c 255 (by decide) fun z6 hz6 => ?_)
        refine lv_iand hx hb dX7_append_14 (lv_topi fun z7 hz7 => ?_)
        refine lv_istore (lv' := [(4, .int z7), (3, .int v2), (0, .ref (B + 1)), (1, .long x)]) hx hb dX7_append_15 hl (by decide) rfl (fun ls hl => ?_)
        have hby : z7 = by8 x i := by rw [hz7, hz5, hx4, i32_inj (hz6.trans (show (255 : Int) = (255 : Int32).toInt from rfl)), show v2 = sh8 i from i32_inj (hs3.trans (sh8_toInt (by omega)).symm)]; rfl
        refine lv_iload hx hb dX7_append_17 (lv_at hl 0 rfl) ?_
        refine lv_bipush (v := 32) hx hb dX7_append_19 (by decide) (ti_c 32 (by decide) fun z8 hz8 => ?_)
        have J62 : ∀ (ls : Array Slot) (H : Heap) (locs : List Loc) (ig9 : sI), lv_has ls 5 [(3, .int v2), (0, .ref (B + 1)), (1, .long x)] → WD B D cA s.heap kd ig9 rg lg H locs → H.size = sz → ((ig9 (B + 1) 1).toInt = (ig (B + 1) 1).toInt + (cn (by8 x) (i + 1) : Nat)) → (Off B 1 3 ig9 ig) → W p l e (rL 0 0 0) s m args below meth c H locs 0 0 (MQ below (QcW B D cA (fun r kd' ig' rg' lg' n => kd = kd' ∧ rg = rg' ∧ lg = lg' ∧ n = sz ∧ (r = none) ∧ Off B 1 3 ig' ig ∧ (ig' (B + 1) 1).toInt = (ig (B + 1) 1).toInt + (cn (by8 x) 8 : Nat))) args s 0 0 (fun q => B ≤ q)) (F0 m 62 ls []) := by
          intro ls H locs ig9 hl hw hsz g62_0 g62_1
          have oig := g62_1
          refine ti_inc hx hb dX7_append_62 hl (k := 0) rfl (by decide) (by decide) (by omega) (fun z10 hz10 ls hl => ?_)
          have hl : lv_has ls 5 [(3, .int z10), (0, .ref (B + 1)), (1, .long x)] := hl
          refine lv_goto (tgt := 3) hx hb dX7_append_65 (by decide) ?_
          exact ih ls H locs ig9 z10 (lv_sub hl [0, 1, 2] rfl) hw hsz (⟨i + 1, by omega, by omega, g62_0⟩) oig (by omega)
        refine b_lt (tgt := 62) hx hb dX7_append_21 (by decide) (fun c21 => ?_) (fun c21 => ?_)
        · exact J62 ls H locs ig3  (lv_sub hl [1, 2, 3] rfl) hw hsz (by rw [cn, if_neg (by rw [← hby]; omega)]; exact hlen) oig
        · refine lv_iload hx hb dX7_append_24 (lv_at hl 0 rfl) ?_
          refine lv_bipush (v := 126) hx hb dX7_append_26 (by decide) (ti_c 126 (by decide) fun z11 hz11 => ?_)
          refine b_gt (tgt := 62) hx hb dX7_append_28 (by decide) (fun c28 => ?_) (fun c28 => ?_)
          · exact J62 ls H locs ig3  (lv_sub hl [1, 2, 3] rfl) hw hsz (by rw [cn, if_neg (by rw [← hby]; omega)]; exact hlen) oig
          · refine lv_aload_n hx hb dX7_append_31 rfl (lv_at hl 2 rfl) ?_
            refine r_get C hw (hsh 1 _ rfl) fl_X7_15 (oV_i rfl) dX7_append_32 (ti_c (ig3 (B + 1) 1).toInt rfl fun z12 hz12 => ?_)
            refine lv_bipush (v := 120) hx hb dX7_append_35 (by decide) (ti_c 120 (by decide) fun z13 hz13 => ?_)
            refine b_ge (tgt := 62) hx hb dX7_append_37 (by decide) (fun c37 => ?_) (fun c37 => ?_)
            · exact absurd c37 (by omega)
            · refine lv_aload_n hx hb dX7_append_40 rfl (lv_at hl 2 rfl) ?_
              refine r_get C hw (hsh 1 _ rfl) fl_X7_9 (oV_r rfl (hrs (1, 0, 2) (by decide))) dX7_append_41 ?_
              refine lv_aload_n hx hb dX7_append_44 rfl (lv_at hl 2 rfl) ?_
              refine r_get C hw (hsh 1 _ rfl) fl_X7_15 (oV_i rfl) dX7_append_45 (ti_c (ig3 (B + 1) 1).toInt rfl fun z14 hz14 => ?_)
              refine lv_iload hx hb dX7_append_48 (lv_at hl 0 rfl) ?_
              refine lv_i2c hx hb dX7_append_50 rfl (lv_topi fun z15 hz15 => ?_)
              refine r_cast C hw (hsh 2 _ rfl) (by omega) (by omega) (by rw [hz15]; exact pk_nc _) dX7_append_51 (fun H locs hH hw => ?_)
              obtain ⟨ig16, eig16⟩ : ∃ f, f = up2 ig3 (B + 2) z14.toInt.toNat z15 := ⟨_, rfl⟩
              rw [← eig16] at hw
              have hsz := hH.trans hsz
              have oig : Off B 1 3 ig16 ig := fun a j h => by rw [eig16]; exact (up2_a (by omega)).trans (oig a j h)
              refine lv_aload_n hx hb dX7_append_52 rfl (lv_at hl 2 rfl) ?_
              refine lv_dup hx hb dX7_append_53 rfl ?_
              refine r_get C hw (hsh 1 _ rfl) fl_X7_15 (oV_i rfl) dX7_append_54 (ti_c (ig16 (B + 1) 1).toInt rfl fun z17 hz17 => ?_)
              have k18 : (ig16 (B + 1) 1).toInt = (ig3 (B + 1) 1).toInt := by rw [eig16, up2_a (by omega)]
              refine lv_iconst (v := 1) hx hb dX7_append_57 (by decide) (ti_c 1 (by decide) fun z19 hz19 => ?_)
              refine lv_iadd hx hb dX7_append_58 (ti_add (by omega) fun z20 hz20 => ?_)
              refine r_puti C hw (hsh 1 _ rfl) fl_X7_15 rfl rfl rfl dX7_append_59 (fun H locs hH hw => ?_)
              obtain ⟨ig21, eig21⟩ : ∃ f, f = up2 ig16 (B + 1) 1 z20 := ⟨_, rfl⟩
              rw [← eig21] at hw
              have hsz := hH.trans hsz
              have oig : Off B 1 3 ig21 ig := fun a j h => by rw [eig21]; exact (up2_a (by omega)).trans (oig a j h)
              exact J62 ls H locs ig21  (lv_sub hl [1, 2, 3] rfl) hw hsz (by rw [cn, if_pos (by rw [← hby]; omega)]; rw [eig21, up2_eq]; omega) oig
  exact L3 ((z1.toInt + 8) + 1).toNat ls s.heap [] ig z1 (lv_sub hl [0, 1, 2] rfl) hw hsz (⟨0, by omega, by omega, by simp [cn]⟩) oig (by omega)

set_option maxHeartbeats 4000000 in
set_option maxRecDepth 100000 in
theorem t_X7_addToken (l : Launch) (B : Nat) (D : va_G) (cA : Nat → ClassId) (kd : sK) (ig : sI) (rg : sR) (lg : sG) (sz : Nat) (x y z0_ : Int32) (hsh : Sh B kd) (hrs : Rs B rg) (h6 : ig (B + 1) 6 = 0) (hx0 : x.toInt = 0) (hy0 : y.toInt = 0) : MC l B D cA yX7_addToken cX7_addToken 4 none (rL 0 0 0) [.ref (B + 1), .int x, .int y, .int z0_] kd ig rg lg sz (fun r kd' ig' rg' lg' n => kd = kd' ∧ rg = rg' ∧ lg = lg' ∧ n = sz ∧ (r = none) ∧ Off B 1 9 ig' ig ∧ ig' (B + 1) 6 = 1 ∧ ig' (B + 3) 0 = 0 ∧ ig' (B + 5) 0 = 0) := by
  refine MC.of (own := RX7) (by decide +kernel) rfl (Nat.le_of_ble_eq_true rfl) ?_
  intro p e s m args below meth c ls C hr hlk hnm hw hsz hl
  have hx := C.1.1
  have hb := C.1.2.1
  have hown := C.1.2.2.2.1
  have hts := C.1.2.2.2.2
  have hl : lv_has ls 4 [(0, .ref (B + 1)), (1, .int x), (2, .int y), (3, .int z0_)] := hl
  have oig : Off B 1 9 ig ig := Off.rf
  refine lv_aload_n hx hb dX7_addToken_0 rfl (lv_at hl 0 rfl) ?_
  refine r_get C hw (hsh 1 _ rfl) fl_X7_69 (oV_i rfl) dX7_addToken_1 (ti_c (ig (B + 1) 6).toInt rfl fun z1 hz1 => ?_)
  have k2 : (ig (B + 1) (6)).toInt = 0 := by exact z0 (h6)
  refine lv_bipush (v := 120) hx hb dX7_addToken_4 (by decide) (ti_c 120 (by decide) fun z3 hz3 => ?_)
  refine b_gt (tgt := 79) hx hb dX7_addToken_6 (by decide) (fun c6 => ?_) (fun c6 => ?_)
  · exact absurd c6 (by omega)
  · refine lv_aload_n hx hb dX7_addToken_9 rfl (lv_at hl 0 rfl) ?_
    refine r_get C hw (hsh 1 _ rfl) fl_X7_19 (oV_r rfl (hrs (1, 3, 3) (by decide))) dX7_addToken_10 ?_
    refine lv_aload_n hx hb dX7_addToken_13 rfl (lv_at hl 0 rfl) ?_
    refine r_get C hw (hsh 1 _ rfl) fl_X7_69 (oV_i rfl) dX7_addToken_14 (ti_c (ig (B + 1) 6).toInt rfl fun z4 hz4 => ?_)
    have k5 : (ig (B + 1) (6)).toInt = 0 := by exact z0 (h6)
    refine lv_iload_n hx hb dX7_addToken_17 rfl (lv_at hl 1 rfl) ?_
    refine r_iast C hw (hsh 3 _ rfl) (by omega) (by omega) dX7_addToken_18 (fun H locs hH hw => ?_)
    obtain ⟨ig6, eig6⟩ : ∃ f, f = up2 ig (B + 3) z4.toInt.toNat x := ⟨_, rfl⟩
    rw [← eig6] at hw
    have hsz := hH.trans hsz
    have oig : Off B 1 9 ig6 ig := fun a j h => by rw [eig6]; exact (up2_a (by omega)).trans (oig a j h)
    refine lv_aload_n hx hb dX7_addToken_19 rfl (lv_at hl 0 rfl) ?_
    refine r_get C hw (hsh 1 _ rfl) fl_X7_26 (oV_r rfl (hrs (1, 5, 5) (by decide))) dX7_addToken_20 ?_
    refine lv_aload_n hx hb dX7_addToken_23 rfl (lv_at hl 0 rfl) ?_
    refine r_get C hw (hsh 1 _ rfl) fl_X7_69 (oV_i rfl) dX7_addToken_24 (ti_c (ig6 (B + 1) 6).toInt rfl fun z7 hz7 => ?_)
    have k8 : (ig6 (B + 1) (6)).toInt = 0 := by rw [eig6, up2_a (by omega)]; exact z0 (h6)
    refine lv_iload_n hx hb dX7_addToken_27 rfl (lv_at hl 2 rfl) ?_
    refine r_iast C hw (hsh 5 _ rfl) (by omega) (by omega) dX7_addToken_28 (fun H locs hH hw => ?_)
    obtain ⟨ig9, eig9⟩ : ∃ f, f = up2 ig6 (B + 5) z7.toInt.toNat y := ⟨_, rfl⟩
    rw [← eig9] at hw
    have hsz := hH.trans hsz
    have oig : Off B 1 9 ig9 ig := fun a j h => by rw [eig9]; exact (up2_a (by omega)).trans (oig a j h)
    refine lv_aload_n hx hb dX7_addToken_29 rfl (lv_at hl 0 rfl) ?_
    refine r_get C hw (hsh 1 _ rfl) fl_X7_23 (oV_r rfl (hrs (1, 4, 4) (by decide))) dX7_addToken_30 ?_
    refine lv_aload_n hx hb dX7_addToken_33 rfl (lv_at hl 0 rfl) ?_
    refine r_get C hw (hsh 1 _ rfl) fl_X7_69 (oV_i rfl) dX7_addToken_34 (ti_c (ig9 (B + 1) 6).toInt rfl fun z10 hz10 => ?_)
    have k11 : (ig9 (B + 1) (6)).toInt = 0 := by rw [eig9, up2_a (by omega), eig6, up2_a (by omega)]; exact z0 (h6)
    refine lv_iload_n hx hb dX7_addToken_37 rfl (lv_at hl 1 rfl) ?_
    refine lv_bipush (v := 119) hx hb dX7_addToken_38 (by decide) (ti_c 119 (by decide) fun z12 hz12 => ?_)
    refine b_ne (tgt := 52) hx hb dX7_addToken_40 (by decide) (fun c40 => ?_) (fun c40 => ?_)
    · refine lv_iload_n hx hb dX7_addToken_52 rfl (lv_at hl 1 rfl) ?_
      refine lv_bipush (v := 110) hx hb dX7_addToken_53 (by decide) (ti_c 110 (by decide) fun z13 hz13 => ?_)
      refine b_ne (tgt := 67) hx hb dX7_addToken_55 (by decide) (fun c55 => ?_) (fun c55 => ?_)
      · refine lv_iconst (v := 0) hx hb dX7_addToken_67 (by decide) (ti_c 0 (by decide) fun z14 hz14 => ?_)
        refine r_iast C hw (hsh 4 _ rfl) (by omega) (by omega) dX7_addToken_68 (fun H locs hH hw => ?_)
        obtain ⟨ig15, eig15⟩ : ∃ f, f = up2 ig9 (B + 4) z10.toInt.toNat z14 := ⟨_, rfl⟩
        rw [← eig15] at hw
        have hsz := hH.trans hsz
        have oig : Off B 1 9 ig15 ig := fun a j h => by rw [eig15]; exact (up2_a (by omega)).trans (oig a j h)
        refine lv_aload_n hx hb dX7_addToken_69 rfl (lv_at hl 0 rfl) ?_
        refine lv_dup hx hb dX7_addToken_70 rfl ?_
        refine r_get C hw (hsh 1 _ rfl) fl_X7_69 (oV_i rfl) dX7_addToken_71 (ti_c (ig15 (B + 1) 6).toInt rfl fun z16 hz16 => ?_)
        have k17 : (ig15 (B + 1) (6)).toInt = 0 := by rw [eig15, up2_a (by omega), eig9, up2_a (by omega), eig6, up2_a (by omega)]; exact z0 (h6)
        refine lv_iconst (v := 1) hx hb dX7_addToken_74 (by decide) (ti_c 1 (by decide) fun z18 hz18 => ?_)
        refine lv_iadd hx hb dX7_addToken_75 (ti_add (by omega) fun z19 hz19 => ?_)
        refine r_puti C hw (hsh 1 _ rfl) fl_X7_69 rfl rfl rfl dX7_addToken_76 (fun H locs hH hw => ?_)
        obtain ⟨ig20, eig20⟩ : ∃ f, f = up2 ig15 (B + 1) 6 z19 := ⟨_, rfl⟩
        rw [← eig20] at hw
        have hsz := hH.trans hsz
        have oig : Off B 1 9 ig20 ig := fun a j h => by rw [eig20]; exact (up2_a (by omega)).trans (oig a j h)
        exact r_vret C hw hr hlk (Nat.le_of_ble_eq_true rfl) (Nat.le_of_ble_eq_true rfl) dX7_addToken_79 ⟨rfl, rfl, rfl, hsz, rfl, oig, by rw [eig20, up2_eq]; exact eq1 (by omega), by rw [eig20, up2_a (by omega), eig15, up2_a (by omega), eig9, up2_a (by omega), eig6, show z4.toInt.toNat = 0 by omega, up2_eq]; exact eq0 (by omega), by rw [eig20, up2_a (by omega), eig15, up2_a (by omega), eig9, show z7.toInt.toNat = 0 by omega, up2_eq]; exact eq0 (by omega)⟩
      · exact absurd c55 (by omega)
    · exact absurd c40 (by omega)

set_option maxHeartbeats 4000000 in
set_option maxRecDepth 100000 in
theorem t_X7_findTokens (l : Launch) (B : Nat) (D : va_G) (cA : Nat → ClassId) (kd : sK) (ig : sI) (rg : sR) (lg : sG) (sz : Nat) (hsh : Sh B kd) (hrs : Rs B rg) (hle : ig (B + 1) 1 = 0) : MC l B D cA yX7_findTokens cX7_findTokens 3 none (rL 1 0 0) [.ref (B + 1)] kd ig rg lg sz (fun r kd' ig' rg' lg' n => kd = kd' ∧ rg = rg' ∧ lg = lg' ∧ n = sz ∧ (r = none) ∧ Off B 1 9 ig' ig ∧ ig' (B + 1) 6 = 1 ∧ ig' (B + 3) 0 = 0 ∧ ig' (B + 5) 0 = 0) := by
  refine MC.of (own := RX7) (by decide +kernel) rfl (Nat.le_of_ble_eq_true rfl) ?_
  intro p e s m args below meth c ls C hr hlk hnm hw hsz hl
  have hx := C.1.1
  have hb := C.1.2.1
  have hown := C.1.2.2.2.1
  have hts := C.1.2.2.2.2
  have hl : lv_has ls 3 [(0, .ref (B + 1))] := hl
  have oig : Off B 1 9 ig ig := Off.rf
  refine lv_aload_n hx hb dX7_findTokens_0 rfl (lv_at hl 0 rfl) ?_
  refine lv_iconst (v := 0) hx hb dX7_findTokens_1 (by decide) (ti_c 0 (by decide) fun z1 hz1 => ?_)
  refine r_puti C hw (hsh 1 _ rfl) fl_X7_69 rfl rfl rfl dX7_findTokens_2 (fun H locs hH hw => ?_)
  obtain ⟨ig2, eig2⟩ : ∃ f, f = up2 ig (B + 1) 6 z1 := ⟨_, rfl⟩
  rw [← eig2] at hw
  have hsz := hH.trans hsz
  have oig : Off B 1 9 ig2 ig := fun a j h => by rw [eig2]; exact (up2_a (by omega)).trans (oig a j h)
  refine lv_iconst (v := 0) hx hb dX7_findTokens_5 (by decide) (ti_c 0 (by decide) fun z3 hz3 => ?_)
  refine lv_istore_n (lv' := [(1, .int z3), (0, .ref (B + 1))]) hx hb dX7_findTokens_6 rfl hl (by decide) rfl (fun ls hl => ?_)
  refine lv_iconst (v := 0) hx hb dX7_findTokens_7 (by decide) (ti_c 0 (by decide) fun z4 hz4 => ?_)
  refine lv_istore_n (lv' := [(2, .int z4), (1, .int z3), (0, .ref (B + 1))]) hx hb dX7_findTokens_8 rfl hl (by decide) rfl (fun ls hl => ?_)
  refine lv_iload_n hx hb dX7_findTokens_9 rfl (lv_at hl 0 rfl) ?_
  refine lv_aload_n hx hb dX7_findTokens_10 rfl (lv_at hl 2 rfl) ?_
  refine r_get C hw (hsh 1 _ rfl) fl_X7_15 (oV_i rfl) dX7_findTokens_11 (ti_c (ig2 (B + 1) 1).toInt rfl fun z5 hz5 => ?_)
  have k6 : (ig2 (B + 1) (1)).toInt = 0 := by rw [eig2, up2_j (by decide)]; exact z0 (hle)
  refine b_ge (tgt := 57) hx hb dX7_findTokens_14 (by decide) (fun c14 => ?_) (fun c14 => ?_)
  · refine lv_aload_n hx hb dX7_findTokens_57 rfl (lv_at hl 2 rfl) ?_
    refine lv_iconst (v := 0) hx hb dX7_findTokens_58 (by decide) (ti_c 0 (by decide) fun z7 hz7 => ?_)
    refine lv_aload_n hx hb dX7_findTokens_59 rfl (lv_at hl 2 rfl) ?_
    refine r_get C hw (hsh 1 _ rfl) fl_X7_15 (oV_i rfl) dX7_findTokens_60 (ti_c (ig2 (B + 1) 1).toInt rfl fun z8 hz8 => ?_)
    have k9 : (ig2 (B + 1) (1)).toInt = 0 := by rw [eig2, up2_j (by decide)]; exact z0 (hle)
    refine lv_aload_n hx hb dX7_findTokens_63 rfl (lv_at hl 2 rfl) ?_
    refine r_get C hw (hsh 1 _ rfl) fl_X7_15 (oV_i rfl) dX7_findTokens_64 (ti_c (ig2 (B + 1) 1).toInt rfl fun z10 hz10 => ?_)
    have k11 : (ig2 (B + 1) (1)).toInt = 0 := by rw [eig2, up2_j (by decide)]; exact z0 (hle)
    refine r_callV (As := [.int z7, .int z8, .int z10]) (rest := []) C hw (t_X7_addToken l B D cA kd ig2 rg lg _ z7 z8 z10 hsh hrs (by rw [eig2, up2_eq]; exact eq0 (by omega)) (by omega) (by omega)) sv_X7_85 (hsh 1 _ rfl) rfl hl.1 rfl (Nat.le_of_ble_eq_true rfl) ⟨Nat.le_of_ble_eq_true rfl, Nat.le_of_ble_eq_true rfl⟩ ⟨Nat.le_of_ble_eq_true rfl, Nat.le_of_ble_eq_true rfl⟩ dX7_findTokens_67 (fun r17 kd13 ig14 rg15 lg16 H locs hw hH hp18 => ?_)
    obtain ⟨rfl, rfl, rfl, hq12, rfl, oa12, ht6, ht3, ht5⟩ := hp18
    have hsz := hq12.trans hsz
    have oig := Off.tr (lo := 1) (hi := 9) oa12 oig (by decide) (by decide)
    exact r_vret C hw hr hlk (Nat.le_of_ble_eq_true rfl) (Nat.le_of_ble_eq_true rfl) dX7_findTokens_70 ⟨rfl, rfl, rfl, hsz, rfl, oig, ht6, ht3, ht5⟩
  · exact absurd c14 (by omega)

set_option maxHeartbeats 4000000 in
set_option maxRecDepth 100000 in
theorem t_X7_kind (l : Launch) (B : Nat) (D : va_G) (cA : Nat → ClassId) (kd : sK) (ig : sI) (rg : sR) (lg : sG) (sz : Nat) (hsh : Sh B kd) (hrs : Rs B rg) (hts1 : TS B ig) : MC l B D cA yX7_kind cX7_kind 1 (some .int) (rL 0 0 0) [.ref (B + 1)] kd ig rg lg sz (Pu kd ig rg lg sz (fun r => ∃ z : Int32, r = some (.int z) ∧ z.toInt = 0)) := by
  refine MC.of (own := RX7) (by decide +kernel) rfl (Nat.le_of_ble_eq_true rfl) ?_
  intro p e s m args below meth c ls C hr hlk hnm hw hsz hl
  have hx := C.1.1
  have hb := C.1.2.1
  have hown := C.1.2.2.2.1
  have hts := C.1.2.2.2.2
  have hl : lv_has ls 1 [(0, .ref (B + 1))] := hl
  refine lv_aload_n hx hb dX7_kind_0 rfl (lv_at hl 0 rfl) ?_
  refine r_get C hw (hsh 1 _ rfl) fl_X7_50 (oV_i rfl) dX7_kind_1 (ti_c (ig (B + 1) 7).toInt rfl fun z1 hz1 => ?_)
  have k2 : (ig (B + 1) (7)).toInt = 0 := by exact z0 (hts1.1)
  refine z_lt (tgt := 30) hx hb dX7_kind_4 (by decide) (fun c4 => ?_) (fun c4 => ?_)
  · exact absurd c4 (by omega)
  · refine lv_aload_n hx hb dX7_kind_7 rfl (lv_at hl 0 rfl) ?_
    refine r_get C hw (hsh 1 _ rfl) fl_X7_50 (oV_i rfl) dX7_kind_8 (ti_c (ig (B + 1) 7).toInt rfl fun z3 hz3 => ?_)
    have k4 : (ig (B + 1) (7)).toInt = 0 := by exact z0 (hts1.1)
    refine lv_aload_n hx hb dX7_kind_11 rfl (lv_at hl 0 rfl) ?_
    refine r_get C hw (hsh 1 _ rfl) fl_X7_69 (oV_i rfl) dX7_kind_12 (ti_c (ig (B + 1) 6).toInt rfl fun z5 hz5 => ?_)
    have k6 := zz1 hts1.2.1
    refine b_ge (tgt := 30) hx hb dX7_kind_15 (by decide) (fun c15 => ?_) (fun c15 => ?_)
    · exact absurd c15 (by omega)
    · refine lv_aload_n hx hb dX7_kind_18 rfl (lv_at hl 0 rfl) ?_
      refine r_get C hw (hsh 1 _ rfl) fl_X7_19 (oV_r rfl (hrs (1, 3, 3) (by decide))) dX7_kind_19 ?_
      refine lv_aload_n hx hb dX7_kind_22 rfl (lv_at hl 0 rfl) ?_
      refine r_get C hw (hsh 1 _ rfl) fl_X7_50 (oV_i rfl) dX7_kind_23 (ti_c (ig (B + 1) 7).toInt rfl fun z7 hz7 => ?_)
      have k8 : (ig (B + 1) (7)).toInt = 0 := by exact z0 (hts1.1)
      refine r_iald C hw (hsh 3 _ rfl) (by omega) (by omega) dX7_kind_26 (ti_c (ig (B + 3) z7.toInt.toNat).toInt rfl fun z9 hz9 => ?_)
      have k10 : (ig (B + 3) z7.toInt.toNat).toInt = 0 := by rw [show z7.toInt.toNat = 0 by omega]; exact z0 hts1.2.2.1
      refine lv_goto (tgt := 31) hx hb dX7_kind_27 (by decide) ?_
      exact r_iret C hw hr hlk rfl (Nat.le_of_ble_eq_true rfl) (Nat.le_of_ble_eq_true rfl) dX7_kind_31 ⟨rfl, rfl, rfl, rfl, hsz, _, rfl, by omega⟩

set_option maxHeartbeats 4000000 in
set_option maxRecDepth 100000 in
theorem t_X7_startsPart (l : Launch) (B : Nat) (D : va_G) (cA : Nat → ClassId) (kd : sK) (ig : sI) (rg : sR) (lg : sG) (sz : Nat) (hsh : Sh B kd) (hrs : Rs B rg) (hts1 : TS B ig) : MC l B D cA yX7_startsPart cX7_startsPart 1 (some .boolean) (rL 1 0 0) [.ref (B + 1)] kd ig rg lg sz (Pu kd ig rg lg sz (fun r => ∃ z : Int32, r = some (.int z) ∧ z.toInt = 0)) := by
  refine MC.of (own := RX7) (by decide +kernel) rfl (Nat.le_of_ble_eq_true rfl) ?_
  intro p e s m args below meth c ls C hr hlk hnm hw hsz hl
  have hx := C.1.1
  have hb := C.1.2.1
  have hown := C.1.2.2.2.1
  have hts := C.1.2.2.2.2
  have hl : lv_has ls 1 [(0, .ref (B + 1))] := hl
  refine lv_aload_n hx hb dX7_startsPart_0 rfl (lv_at hl 0 rfl) ?_
  refine r_callV (As := []) (rest := []) C hw (t_X7_kind l B D cA kd ig rg lg _ hsh hrs hts1) sv_X7_57 (hsh 1 _ rfl) rfl hl.1 rfl (Nat.le_of_ble_eq_true rfl) ⟨Nat.le_of_ble_eq_true rfl, Nat.le_of_ble_eq_true rfl⟩ ⟨Nat.le_of_ble_eq_true rfl, Nat.le_of_ble_eq_true rfl⟩ dX7_startsPart_1 (fun r6 kd2 ig3 rg4 lg5 H locs hw hH hp7 => ?_)
  obtain ⟨rfl, rfl, rfl, rfl, hzz1, z1, rfl, hz1⟩ := hp7
  have hsz := hzz1.trans hsz
  refine lv_bipush (v := 119) hx hb dX7_startsPart_4 (by decide) (ti_c 119 (by decide) fun z8 hz8 => ?_)
  refine b_ne (tgt := 33) hx hb dX7_startsPart_6 (by decide) (fun c6 => ?_) (fun c6 => ?_)
  · refine lv_aload_n hx hb dX7_startsPart_33 rfl (lv_at hl 0 rfl) ?_
    refine r_callV (As := []) (rest := []) C hw (t_X7_kind l B D cA kd ig rg lg _ hsh hrs hts1) sv_X7_57 (hsh 1 _ rfl) rfl hl.1 rfl (Nat.le_of_ble_eq_true rfl) ⟨Nat.le_of_ble_eq_true rfl, Nat.le_of_ble_eq_true rfl⟩ ⟨Nat.le_of_ble_eq_true rfl, Nat.le_of_ble_eq_true rfl⟩ dX7_startsPart_34 (fun r14 kd10 ig11 rg12 lg13 H locs hw hH hp15 => ?_)
    obtain ⟨rfl, rfl, rfl, rfl, hzz9, z9, rfl, hz9⟩ := hp15
    have hsz := hzz9.trans hsz
    refine lv_bipush (v := 110) hx hb dX7_startsPart_37 (by decide) (ti_c 110 (by decide) fun z16 hz16 => ?_)
    refine b_eq (tgt := 69) hx hb dX7_startsPart_39 (by decide) (fun c39 => ?_) (fun c39 => ?_)
    · exact absurd c39 (by omega)
    · refine lv_aload_n hx hb dX7_startsPart_42 rfl (lv_at hl 0 rfl) ?_
      refine r_callV (As := []) (rest := []) C hw (t_X7_kind l B D cA kd ig rg lg _ hsh hrs hts1) sv_X7_57 (hsh 1 _ rfl) rfl hl.1 rfl (Nat.le_of_ble_eq_true rfl) ⟨Nat.le_of_ble_eq_true rfl, Nat.le_of_ble_eq_true rfl⟩ ⟨Nat.le_of_ble_eq_true rfl, Nat.le_of_ble_eq_true rfl⟩ dX7_startsPart_43 (fun r22 kd18 ig19 rg20 lg21 H locs hw hH hp23 => ?_)
      obtain ⟨rfl, rfl, rfl, rfl, hzz17, z17, rfl, hz17⟩ := hp23
      have hsz := hzz17.trans hsz
      refine lv_bipush (v := 40) hx hb dX7_startsPart_46 (by decide) (ti_c 40 (by decide) fun z24 hz24 => ?_)
      refine b_eq (tgt := 69) hx hb dX7_startsPart_48 (by decide) (fun c48 => ?_) (fun c48 => ?_)
      · exact absurd c48 (by omega)
      · refine lv_aload_n hx hb dX7_startsPart_51 rfl (lv_at hl 0 rfl) ?_
        refine r_callV (As := []) (rest := []) C hw (t_X7_kind l B D cA kd ig rg lg _ hsh hrs hts1) sv_X7_57 (hsh 1 _ rfl) rfl hl.1 rfl (Nat.le_of_ble_eq_true rfl) ⟨Nat.le_of_ble_eq_true rfl, Nat.le_of_ble_eq_true rfl⟩ ⟨Nat.le_of_ble_eq_true rfl, Nat.le_of_ble_eq_true rfl⟩ dX7_startsPart_52 (fun r30 kd26 ig27 rg28 lg29 H locs hw hH hp31 => ?_)
        obtain ⟨rfl, rfl, rfl, rfl, hzz25, z25, rfl, hz25⟩ := hp31
        have hsz := hzz25.trans hsz
        refine lv_bipush (v := 45) hx hb dX7_startsPart_55 (by decide) (ti_c 45 (by decide) fun z32 hz32 => ?_)
        refine b_eq (tgt := 69) hx hb dX7_startsPart_57 (by decide) (fun c57 => ?_) (fun c57 => ?_)
        · exact absurd c57 (by omega)
        · refine lv_aload_n hx hb dX7_startsPart_60 rfl (lv_at hl 0 rfl) ?_
          refine r_callV (As := []) (rest := []) C hw (t_X7_kind l B D cA kd ig rg lg _ hsh hrs hts1) sv_X7_57 (hsh 1 _ rfl) rfl hl.1 rfl (Nat.le_of_ble_eq_true rfl) ⟨Nat.le_of_ble_eq_true rfl, Nat.le_of_ble_eq_true rfl⟩ ⟨Nat.le_of_ble_eq_true rfl, Nat.le_of_ble_eq_true rfl⟩ dX7_startsPart_61 (fun r38 kd34 ig35 rg36 lg37 H locs hw hH hp39 => ?_)
          obtain ⟨rfl, rfl, rfl, rfl, hzz33, z33, rfl, hz33⟩ := hp39
          have hsz := hzz33.trans hsz
          refine lv_bipush (v := 36) hx hb dX7_startsPart_64 (by decide) (ti_c 36 (by decide) fun z40 hz40 => ?_)
          refine b_ne (tgt := 73) hx hb dX7_startsPart_66 (by decide) (fun c66 => ?_) (fun c66 => ?_)
          · refine lv_iconst (v := 0) hx hb dX7_startsPart_73 (by decide) (ti_c 0 (by decide) fun z41 hz41 => ?_)
            exact r_iret C hw hr hlk (nar_b (by omega)) (Nat.le_of_ble_eq_true rfl) (Nat.le_of_ble_eq_true rfl) dX7_startsPart_74 ⟨rfl, rfl, rfl, rfl, hsz, _, rfl, by omega⟩
          · exact absurd c66 (by omega)
  · exact absurd c6 (by omega)

set_option maxHeartbeats 4000000 in
set_option maxRecDepth 100000 in
theorem t_X7_wrong (l : Launch) (B : Nat) (D : va_G) (cA : Nat → ClassId) (kd : sK) (ig : sI) (rg : sR) (lg : sG) (sz : Nat) (x : Int32) (hsh : Sh B kd) (hrs : Rs B rg) (hts1 : TS B ig) (hx0 : x.toInt = 1) : MC l B D cA yX7_wrong cX7_wrong 3 (some .boolean) (rL 0 0 0) [.ref (B + 1), .int x] kd ig rg lg sz (fun r kd' ig' rg' lg' n => kd = kd' ∧ rg = rg' ∧ lg = lg' ∧ n = sz ∧ (∃ z : Int32, r = some (.int z) ∧ z.toInt = 0) ∧ Off B 1 9 ig' ig ∧ (ig' (B + 1) 8).toInt = 1) := by
  refine MC.of (own := RX7) (by decide +kernel) rfl (Nat.le_of_ble_eq_true rfl) ?_
  intro p e s m args below meth c ls C hr hlk hnm hw hsz hl
  have hx := C.1.1
  have hb := C.1.2.1
  have hown := C.1.2.2.2.1
  have hts := C.1.2.2.2.2
  have hl : lv_has ls 3 [(0, .ref (B + 1)), (1, .int x)] := hl
  have oig : Off B 1 9 ig ig := Off.rf
  refine lv_aload_n hx hb dX7_wrong_0 rfl (lv_at hl 0 rfl) ?_
  refine r_get C hw (hsh 1 _ rfl) fl_X7_50 (oV_i rfl) dX7_wrong_1 (ti_c (ig (B + 1) 7).toInt rfl fun z1 hz1 => ?_)
  have k2 : (ig (B + 1) (7)).toInt = 0 := by exact z0 (hts1.1)
  refine z_lt (tgt := 30) hx hb dX7_wrong_4 (by decide) (fun c4 => ?_) (fun c4 => ?_)
  · exact absurd c4 (by omega)
  · refine lv_aload_n hx hb dX7_wrong_7 rfl (lv_at hl 0 rfl) ?_
    refine r_get C hw (hsh 1 _ rfl) fl_X7_50 (oV_i rfl) dX7_wrong_8 (ti_c (ig (B + 1) 7).toInt rfl fun z3 hz3 => ?_)
    have k4 : (ig (B + 1) (7)).toInt = 0 := by exact z0 (hts1.1)
    refine lv_aload_n hx hb dX7_wrong_11 rfl (lv_at hl 0 rfl) ?_
    refine r_get C hw (hsh 1 _ rfl) fl_X7_69 (oV_i rfl) dX7_wrong_12 (ti_c (ig (B + 1) 6).toInt rfl fun z5 hz5 => ?_)
    have k6 := zz1 hts1.2.1
    refine b_ge (tgt := 30) hx hb dX7_wrong_15 (by decide) (fun c15 => ?_) (fun c15 => ?_)
    · exact absurd c15 (by omega)
    · refine lv_aload_n hx hb dX7_wrong_18 rfl (lv_at hl 0 rfl) ?_
      refine r_get C hw (hsh 1 _ rfl) fl_X7_26 (oV_r rfl (hrs (1, 5, 5) (by decide))) dX7_wrong_19 ?_
      refine lv_aload_n hx hb dX7_wrong_22 rfl (lv_at hl 0 rfl) ?_
      refine r_get C hw (hsh 1 _ rfl) fl_X7_50 (oV_i rfl) dX7_wrong_23 (ti_c (ig (B + 1) 7).toInt rfl fun z7 hz7 => ?_)
      have k8 : (ig (B + 1) (7)).toInt = 0 := by exact z0 (hts1.1)
      refine r_iald C hw (hsh 5 _ rfl) (by omega) (by omega) dX7_wrong_26 (ti_c (ig (B + 5) z7.toInt.toNat).toInt rfl fun z9 hz9 => ?_)
      have k10 : (ig (B + 5) z7.toInt.toNat).toInt = 0 := by rw [show z7.toInt.toNat = 0 by omega]; exact z0 hts1.2.2.2
      refine lv_goto (tgt := 34) hx hb dX7_wrong_27 (by decide) ?_
      refine lv_istore_n (lv' := [(2, .int z9), (0, .ref (B + 1)), (1, .int x)]) hx hb dX7_wrong_34 rfl hl (by decide) rfl (fun ls hl => ?_)
      refine lv_aload_n hx hb dX7_wrong_35 rfl (lv_at hl 1 rfl) ?_
      refine lv_iload_n hx hb dX7_wrong_36 rfl (lv_at hl 2 rfl) ?_
      refine lv_bipush (v := 16) hx hb dX7_wrong_37 (by decide) (ti_c 16 (by decide) fun z11 hz11 => ?_)
      refine lv_iload_n hx hb dX7_wrong_39 rfl (lv_at hl 0 rfl) ?_
      refine lv_imul hx hb dX7_wrong_40 (ti_mulL 16 hz11 (by omega) fun z12 hz12 => ?_)
      refine lv_iadd hx hb dX7_wrong_41 (ti_add (by omega) fun z13 hz13 => ?_)
      refine r_puti C hw (hsh 1 _ rfl) fl_X7_44 rfl rfl rfl dX7_wrong_42 (fun H locs hH hw => ?_)
      obtain ⟨ig14, eig14⟩ : ∃ f, f = up2 ig (B + 1) 8 z13 := ⟨_, rfl⟩
      rw [← eig14] at hw
      have hsz := hH.trans hsz
      have oig : Off B 1 9 ig14 ig := fun a j h => by rw [eig14]; exact (up2_a (by omega)).trans (oig a j h)
      refine lv_iconst (v := 0) hx hb dX7_wrong_45 (by decide) (ti_c 0 (by decide) fun z15 hz15 => ?_)
      exact r_iret C hw hr hlk (nar_b (by omega)) (Nat.le_of_ble_eq_true rfl) (Nat.le_of_ble_eq_true rfl) dX7_wrong_46 ⟨rfl, rfl, rfl, hsz, ⟨_, rfl, by omega⟩, oig, by rw [eig14, up2_eq]; omega⟩

set_option maxHeartbeats 4000000 in
set_option maxRecDepth 100000 in
theorem t_X7_part (l : Launch) (B : Nat) (D : va_G) (cA : Nat → ClassId) (kd : sK) (ig : sI) (rg : sR) (lg : sG) (sz : Nat) (x : Int32) (hsh : Sh B kd) (hrs : Rs B rg) (hts1 : TS B ig) : MC l B D cA yX7_part cX7_part 2 (some .boolean) (rL 2 0 0) [.ref (B + 1), .int x] kd ig rg lg sz (fun r kd' ig' rg' lg' n => kd = kd' ∧ rg = rg' ∧ lg = lg' ∧ n = sz ∧ (∃ z : Int32, r = some (.int z) ∧ z.toInt = 0) ∧ Off B 1 9 ig' ig ∧ (ig' (B + 1) 8).toInt = 1) := by
  refine MC.of (own := RX7) (by decide +kernel) rfl (Nat.le_of_ble_eq_true rfl) ?_
  intro p e s m args below meth c ls C hr hlk hnm hw hsz hl
  have hx := C.1.1
  have hb := C.1.2.1
  have hown := C.1.2.2.2.1
  have hts := C.1.2.2.2.2
  have hl : lv_has ls 2 [(0, .ref (B + 1)), (1, .int x)] := hl
  have oig : Off B 1 9 ig ig := Off.rf
  refine lv_aload_n hx hb dX7_part_0 rfl (lv_at hl 0 rfl) ?_
  refine r_callV (As := []) (rest := []) C hw (t_X7_startsPart l B D cA kd ig rg lg _ hsh hrs hts1) sv_X7_118 (hsh 1 _ rfl) rfl hl.1 rfl (Nat.le_of_ble_eq_true rfl) ⟨Nat.le_of_ble_eq_true rfl, Nat.le_of_ble_eq_true rfl⟩ ⟨Nat.le_of_ble_eq_true rfl, Nat.le_of_ble_eq_true rfl⟩ dX7_part_1 (fun r6 kd2 ig3 rg4 lg5 H locs hw hH hp7 => ?_)
  obtain ⟨rfl, rfl, rfl, rfl, hzz1, z1, rfl, hz1⟩ := hp7
  have hsz := hzz1.trans hsz
  refine z_ne (tgt := 13) hx hb dX7_part_4 (by decide) (fun c4 => ?_) (fun c4 => ?_)
  · exact absurd c4 (by omega)
  · refine lv_aload_n hx hb dX7_part_7 rfl (lv_at hl 0 rfl) ?_
    refine lv_iconst (v := 1) hx hb dX7_part_8 (by decide) (ti_c 1 (by decide) fun z8 hz8 => ?_)
    refine r_callV (As := [.int z8]) (rest := []) C hw (t_X7_wrong l B D cA kd ig rg lg _ z8 hsh hrs hts1 (by omega)) sv_X7_61 (hsh 1 _ rfl) rfl hl.1 rfl (Nat.le_of_ble_eq_true rfl) ⟨Nat.le_of_ble_eq_true rfl, Nat.le_of_ble_eq_true rfl⟩ ⟨Nat.le_of_ble_eq_true rfl, Nat.le_of_ble_eq_true rfl⟩ dX7_part_9 (fun r14 kd10 ig11 rg12 lg13 H locs hw hH hp15 => ?_)
    obtain ⟨rfl, rfl, rfl, hq9, ⟨zr9, rfl, hzr9⟩, oa9, hf8⟩ := hp15
    have hsz := hq9.trans hsz
    have oig := Off.tr (lo := 1) (hi := 9) oa9 oig (by decide) (by decide)
    exact r_iret C hw hr hlk (nar_b (by omega)) (Nat.le_of_ble_eq_true rfl) (Nat.le_of_ble_eq_true rfl) dX7_part_12 ⟨rfl, rfl, rfl, hsz, ⟨_, rfl, by omega⟩, oig, hf8⟩

set_option maxHeartbeats 4000000 in
set_option maxRecDepth 100000 in
theorem t_X7_product (l : Launch) (B : Nat) (D : va_G) (cA : Nat → ClassId) (kd : sK) (ig : sI) (rg : sR) (lg : sG) (sz : Nat) (x : Int32) (hsh : Sh B kd) (hrs : Rs B rg) (hts1 : TS B ig) : MC l B D cA yX7_product cX7_product 4 (some .boolean) (rL 3 0 0) [.ref (B + 1), .int x] kd ig rg lg sz (fun r kd' ig' rg' lg' n => kd = kd' ∧ rg = rg' ∧ lg = lg' ∧ n = sz ∧ (∃ z : Int32, r = some (.int z) ∧ z.toInt = 0) ∧ Off B 1 9 ig' ig ∧ (ig' (B + 1) 8).toInt = 1) := by
  refine MC.of (own := RX7) (by decide +kernel) rfl (Nat.le_of_ble_eq_true rfl) ?_
  intro p e s m args below meth c ls C hr hlk hnm hw hsz hl
  have hx := C.1.1
  have hb := C.1.2.1
  have hown := C.1.2.2.2.1
  have hts := C.1.2.2.2.2
  have hl : lv_has ls 4 [(0, .ref (B + 1)), (1, .int x)] := hl
  have oig : Off B 1 9 ig ig := Off.rf
  refine lv_aload_n hx hb dX7_product_0 rfl (lv_at hl 0 rfl) ?_
  refine lv_iload_n hx hb dX7_product_1 rfl (lv_at hl 1 rfl) ?_
  refine r_callV (As := [.int x]) (rest := []) C hw (t_X7_part l B D cA kd ig rg lg _ x hsh hrs hts1) sv_X7_115 (hsh 1 _ rfl) rfl hl.1 rfl (Nat.le_of_ble_eq_true rfl) ⟨Nat.le_of_ble_eq_true rfl, Nat.le_of_ble_eq_true rfl⟩ ⟨Nat.le_of_ble_eq_true rfl, Nat.le_of_ble_eq_true rfl⟩ dX7_product_2 (fun r6 kd2 ig3 rg4 lg5 H locs hw hH hp7 => ?_)
  obtain ⟨rfl, rfl, rfl, hq1, ⟨zr1, rfl, hzr1⟩, oa1, hf8⟩ := hp7
  have hsz := hq1.trans hsz
  have oig := Off.tr (lo := 1) (hi := 9) oa1 oig (by decide) (by decide)
  refine z_ne (tgt := 10) hx hb dX7_product_5 (by decide) (fun c5 => ?_) (fun c5 => ?_)
  · exact absurd c5 (by omega)
  · refine lv_iconst (v := 0) hx hb dX7_product_8 (by decide) (ti_c 0 (by decide) fun z8 hz8 => ?_)
    exact r_iret C hw hr hlk (nar_b (by omega)) (Nat.le_of_ble_eq_true rfl) (Nat.le_of_ble_eq_true rfl) dX7_product_9 ⟨rfl, rfl, rfl, hsz, ⟨_, rfl, by omega⟩, oig, hf8⟩

set_option maxHeartbeats 4000000 in
set_option maxRecDepth 100000 in
theorem t_X7_sum (l : Launch) (B : Nat) (D : va_G) (cA : Nat → ClassId) (kd : sK) (ig : sI) (rg : sR) (lg : sG) (sz : Nat) (x : Int32) (hsh : Sh B kd) (hrs : Rs B rg) (hts1 : TS B ig) : MC l B D cA yX7_sum cX7_sum 4 (some .boolean) (rL 4 0 0) [.ref (B + 1), .int x] kd ig rg lg sz (fun r kd' ig' rg' lg' n => kd = kd' ∧ rg = rg' ∧ lg = lg' ∧ n = sz ∧ (∃ z : Int32, r = some (.int z) ∧ z.toInt = 0) ∧ Off B 1 9 ig' ig ∧ (ig' (B + 1) 8).toInt = 1) := by
  refine MC.of (own := RX7) (by decide +kernel) rfl (Nat.le_of_ble_eq_true rfl) ?_
  intro p e s m args below meth c ls C hr hlk hnm hw hsz hl
  have hx := C.1.1
  have hb := C.1.2.1
  have hown := C.1.2.2.2.1
  have hts := C.1.2.2.2.2
  have hl : lv_has ls 4 [(0, .ref (B + 1)), (1, .int x)] := hl
  have oig : Off B 1 9 ig ig := Off.rf
  refine lv_aload_n hx hb dX7_sum_0 rfl (lv_at hl 0 rfl) ?_
  refine lv_iload_n hx hb dX7_sum_1 rfl (lv_at hl 1 rfl) ?_
  refine r_callV (As := [.int x]) (rest := []) C hw (t_X7_product l B D cA kd ig rg lg _ x hsh hrs hts1) sv_X7_109 (hsh 1 _ rfl) rfl hl.1 rfl (Nat.le_of_ble_eq_true rfl) ⟨Nat.le_of_ble_eq_true rfl, Nat.le_of_ble_eq_true rfl⟩ ⟨Nat.le_of_ble_eq_true rfl, Nat.le_of_ble_eq_true rfl⟩ dX7_sum_2 (fun r6 kd2 ig3 rg4 lg5 H locs hw hH hp7 => ?_)
  obtain ⟨rfl, rfl, rfl, hq1, ⟨zr1, rfl, hzr1⟩, oa1, hf8⟩ := hp7
  have hsz := hq1.trans hsz
  have oig := Off.tr (lo := 1) (hi := 9) oa1 oig (by decide) (by decide)
  refine z_ne (tgt := 10) hx hb dX7_sum_5 (by decide) (fun c5 => ?_) (fun c5 => ?_)
  · exact absurd c5 (by omega)
  · refine lv_iconst (v := 0) hx hb dX7_sum_8 (by decide) (ti_c 0 (by decide) fun z8 hz8 => ?_)
    exact r_iret C hw hr hlk (nar_b (by omega)) (Nat.le_of_ble_eq_true rfl) (Nat.le_of_ble_eq_true rfl) dX7_sum_9 ⟨rfl, rfl, rfl, hsz, ⟨_, rfl, by omega⟩, oig, hf8⟩

set_option maxHeartbeats 4000000 in
set_option maxRecDepth 100000 in
theorem t_X7_read (l : Launch) (B : Nat) (D : va_G) (cA : Nat → ClassId) (kd : sK) (ig : sI) (rg : sR) (lg : sG) (sz : Nat) (x : Int32) (hsh : Sh B kd) (hrs : Rs B rg) (hle : ig (B + 1) 1 = 0) : MC l B D cA yX7_read cX7_read 2 (some (.object "SheetDoctor$Formula")) (rL 5 0 0) [.ref (B + 1), .int x] kd ig rg lg sz (fun r kd' ig' rg' lg' n => kd = kd' ∧ rg = rg' ∧ lg = lg' ∧ n = sz ∧ (r = some .null) ∧ Off B 1 9 ig' ig ∧ (ig' (B + 1) 8).toInt = 1) := by
  refine MC.of (own := RX7) (by decide +kernel) rfl (Nat.le_of_ble_eq_true rfl) ?_
  intro p e s m args below meth c ls C hr hlk hnm hw hsz hl
  have hx := C.1.1
  have hb := C.1.2.1
  have hown := C.1.2.2.2.1
  have hts := C.1.2.2.2.2
  have hl : lv_has ls 2 [(0, .ref (B + 1)), (1, .int x)] := hl
  have oig : Off B 1 9 ig ig := Off.rf
  refine lv_aload_n hx hb dX7_read_0 rfl (lv_at hl 0 rfl) ?_
  refine lv_iload_n hx hb dX7_read_1 rfl (lv_at hl 1 rfl) ?_
  refine r_puti C hw (hsh 1 _ rfl) fl_X7_38 rfl rfl rfl dX7_read_2 (fun H locs hH hw => ?_)
  obtain ⟨ig1, eig1⟩ : ∃ f, f = up2 ig (B + 1) 2 x := ⟨_, rfl⟩
  rw [← eig1] at hw
  have hsz := hH.trans hsz
  have oig : Off B 1 9 ig1 ig := fun a j h => by rw [eig1]; exact (up2_a (by omega)).trans (oig a j h)
  refine lv_aload_n hx hb dX7_read_5 rfl (lv_at hl 0 rfl) ?_
  refine lv_iconst (v := 0) hx hb dX7_read_6 (by decide) (ti_c 0 (by decide) fun z2 hz2 => ?_)
  refine r_puti C hw (hsh 1 _ rfl) fl_X7_41 rfl rfl rfl dX7_read_7 (fun H locs hH hw => ?_)
  obtain ⟨ig3, eig3⟩ : ∃ f, f = up2 ig1 (B + 1) 12 z2 := ⟨_, rfl⟩
  rw [← eig3] at hw
  have hsz := hH.trans hsz
  have oig : Off B 1 9 ig3 ig := fun a j h => by rw [eig3]; exact (up2_a (by omega)).trans (oig a j h)
  refine lv_aload_n hx hb dX7_read_10 rfl (lv_at hl 0 rfl) ?_
  refine lv_iconst (v := 0) hx hb dX7_read_11 (by decide) (ti_c 0 (by decide) fun z4 hz4 => ?_)
  refine r_puti C hw (hsh 1 _ rfl) fl_X7_44 rfl rfl rfl dX7_read_12 (fun H locs hH hw => ?_)
  obtain ⟨ig5, eig5⟩ : ∃ f, f = up2 ig3 (B + 1) 8 z4 := ⟨_, rfl⟩
  rw [← eig5] at hw
  have hsz := hH.trans hsz
  have oig : Off B 1 9 ig5 ig := fun a j h => by rw [eig5]; exact (up2_a (by omega)).trans (oig a j h)
  refine lv_aload_n hx hb dX7_read_15 rfl (lv_at hl 0 rfl) ?_
  refine r_callV (As := []) (rest := []) C hw (t_X7_findTokens l B D cA kd ig5 rg lg _ hsh hrs (by rw [eig5, up2_j (by decide), eig3, up2_j (by decide), eig1, up2_j (by decide)]; exact hle)) sv_X7_47 (hsh 1 _ rfl) rfl hl.1 rfl (Nat.le_of_ble_eq_true rfl) ⟨Nat.le_of_ble_eq_true rfl, Nat.le_of_ble_eq_true rfl⟩ ⟨Nat.le_of_ble_eq_true rfl, Nat.le_of_ble_eq_true rfl⟩ dX7_read_16 (fun r11 kd7 ig8 rg9 lg10 H locs hw hH hp12 => ?_)
  obtain ⟨rfl, rfl, rfl, hq6, rfl, oa6, ht6, ht3, ht5⟩ := hp12
  have hsz := hq6.trans hsz
  have oig := Off.tr (lo := 1) (hi := 9) oa6 oig (by decide) (by decide)
  refine lv_aload_n hx hb dX7_read_19 rfl (lv_at hl 0 rfl) ?_
  refine lv_iconst (v := 0) hx hb dX7_read_20 (by decide) (ti_c 0 (by decide) fun z13 hz13 => ?_)
  refine r_puti C hw (hsh 1 _ rfl) fl_X7_50 rfl rfl rfl dX7_read_21 (fun H locs hH hw => ?_)
  obtain ⟨ig14, eig14⟩ : ∃ f, f = up2 ig8 (B + 1) 7 z13 := ⟨_, rfl⟩
  rw [← eig14] at hw
  have hsz := hH.trans hsz
  have oig : Off B 1 9 ig14 ig := fun a j h => by rw [eig14]; exact (up2_a (by omega)).trans (oig a j h)
  refine lv_aload_n hx hb dX7_read_24 rfl (lv_at hl 0 rfl) ?_
  refine lv_iconst (v := 0) hx hb dX7_read_25 (by decide) (ti_c 0 (by decide) fun z15 hz15 => ?_)
  refine r_callV (As := [.int z15]) (rest := []) C hw (t_X7_sum l B D cA kd ig14 rg lg _ z15 hsh hrs ⟨by rw [eig14, up2_eq]; exact eq0 (by omega), by rw [eig14, up2_j (by decide)]; exact ht6, by rw [eig14, up2_a (by omega)]; exact ht3, by rw [eig14, up2_a (by omega)]; exact ht5⟩) sv_X7_53 (hsh 1 _ rfl) rfl hl.1 rfl (Nat.le_of_ble_eq_true rfl) ⟨Nat.le_of_ble_eq_true rfl, Nat.le_of_ble_eq_true rfl⟩ ⟨Nat.le_of_ble_eq_true rfl, Nat.le_of_ble_eq_true rfl⟩ dX7_read_26 (fun r21 kd17 ig18 rg19 lg20 H locs hw hH hp22 => ?_)
  obtain ⟨rfl, rfl, rfl, hq16, ⟨zr16, rfl, hzr16⟩, oa16, hf8⟩ := hp22
  have hsz := hq16.trans hsz
  have oig := Off.tr (lo := 1) (hi := 9) oa16 oig (by decide) (by decide)
  refine z_ne (tgt := 34) hx hb dX7_read_29 (by decide) (fun c29 => ?_) (fun c29 => ?_)
  · exact absurd c29 (by omega)
  · refine lv_null hx hb dX7_read_32 ?_
    exact r_aret C hw hr hlk (Or.inl rfl) (Nat.le_of_ble_eq_true rfl) (Nat.le_of_ble_eq_true rfl) dX7_read_33 ⟨rfl, rfl, rfl, hsz, rfl, oig, hf8⟩
end
section
theorem FS.of3 {B : Nat} {kd : sK} {ig ig' : sI} {rg : sR} (h : FS B kd ig rg) (e1 : ∀ j, ig' (B + 10) j = ig (B + 10) j) (e2 : ∀ j, ig' (B + 9) j = ig (B + 9) j) (e3 : ∀ j, ig' (B + 12) j = ig (B + 12) j) : FS B kd ig' rg := by
  obtain ⟨h1, h2, h3, h4, h5, h6, h7⟩ := h
  exact ⟨h1, h2, h3, h4, fun j => (e1 j).trans (h5 j), fun j => (e2 j).trans (h6 j), fun j => (e3 j).trans (h7 j)⟩
theorem Rs.up {B c j : Nat} {rg : sR} {v : Option Nat} (h : Rs B rg) (hc : ∀ x ∈ rfp, x.1 ≠ c) : Rs B (up2 rg (B + c) j v) := by
  intro x hx
  have h1 := hc x hx
  rw [up2_a (by omega)]
  exact h x hx
theorem l_ush0 (k : UInt64) : ((0 : Int64).toUInt64 >>> k).toInt64 = 0 := by
  apply Int64.toBitVec_inj.mp
  simp

set_option maxHeartbeats 4000000 in
set_option maxRecDepth 100000 in
theorem t_X0_init (l : Launch) (B : Nat) (D : va_G) (cA : Nat → ClassId) (kd : sK) (ig : sI) (rg : sR) (lg : sG) (sz : Nat) (q : Nat) (x y : Int32) (hq : kd q = some (0, 0)) : MC l B D cA yX0_init cX0_init 4 none (rL 1 0 0) [.ref q, .int x, .int y, .null] kd ig rg lg sz (fun r kd' ig' rg' lg' n => kd = kd' ∧ lg = lg' ∧ n = sz ∧ r = none ∧ (∀ a j, a ≠ q → ig' a j = ig a j) ∧ (∀ a j, a ≠ q → rg' a j = rg a j)) := by
  refine MC.of (own := RX0) (by decide +kernel) rfl (Nat.le_of_ble_eq_true rfl) ?_
  intro p e s m args below meth c ls C hr hlk hnm hw hsz hl
  have hx := C.1.1
  have hb := C.1.2.1
  have hown := C.1.2.2.2.1
  have hts := C.1.2.2.2.2
  have hl : lv_has ls 4 [(0, .ref q), (1, .int x), (2, .int y), (3, .null)] := hl
  refine lv_aload_n hx hb dX0_init_0 rfl (lv_at hl 0 rfl) ?_
  refine r_obj C ol_X0_3 oi_i oi_c hl.1 (by decide) (by decide) dX0_init_1 ?_
  refine lv_aload_n hx hb dX0_init_4 rfl (lv_at hl 0 rfl) ?_
  refine lv_iload_n hx hb dX0_init_5 rfl (lv_at hl 1 rfl) ?_
  refine r_putiF C hw hnm rfl hq fl_X0_9 rfl rfl rfl dX0_init_6 (fun H locs hH hw => ?_)
  obtain ⟨ig1, eig1⟩ : ∃ f, f = up2 ig q 0 x := ⟨_, rfl⟩
  rw [← eig1] at hw
  have hsz := hH.trans hsz
  refine lv_aload_n hx hb dX0_init_9 rfl (lv_at hl 0 rfl) ?_
  refine lv_iload_n hx hb dX0_init_10 rfl (lv_at hl 2 rfl) ?_
  refine r_putiF C hw hnm rfl hq fl_X0_15 rfl rfl rfl dX0_init_11 (fun H locs hH hw => ?_)
  obtain ⟨ig2, eig2⟩ : ∃ f, f = up2 ig1 q 1 y := ⟨_, rfl⟩
  rw [← eig2] at hw
  have hsz := hH.trans hsz
  refine lv_aload_n hx hb dX0_init_14 rfl (lv_at hl 0 rfl) ?_
  refine lv_aload_nN hx hb dX0_init_15 rfl (lv_at hl 3 rfl) ?_
  refine r_putrF C hw none rfl hnm rfl hq fl_X0_18 rfl rfl rfl dX0_init_16 (fun H locs hH hw => ?_)
  obtain ⟨rg3, erg3⟩ : ∃ f, f = up2 rg q 2 none := ⟨_, rfl⟩
  rw [← erg3] at hw
  have hsz := hH.trans hsz
  refine lv_aload_n hx hb dX0_init_19 rfl (lv_at hl 0 rfl) ?_
  refine lv_iconst (v := 0) hx hb dX0_init_20 (by decide) (ti_c 0 (by decide) fun z4 hz4 => ?_)
  refine r_putiF C hw hnm rfl hq fl_X0_22 rfl rfl rfl dX0_init_21 (fun H locs hH hw => ?_)
  obtain ⟨ig5, eig5⟩ : ∃ f, f = up2 ig2 q 3 z4 := ⟨_, rfl⟩
  rw [← eig5] at hw
  have hsz := hH.trans hsz
  refine lv_aload_n hx hb dX0_init_24 rfl (lv_at hl 0 rfl) ?_
  refine lv_iconst (v := 0) hx hb dX0_init_25 (by decide) (ti_c 0 (by decide) fun z6 hz6 => ?_)
  refine r_putiF C hw hnm rfl hq fl_X0_25 rfl rfl rfl dX0_init_26 (fun H locs hH hw => ?_)
  obtain ⟨ig7, eig7⟩ : ∃ f, f = up2 ig5 q 4 z6 := ⟨_, rfl⟩
  rw [← eig7] at hw
  have hsz := hH.trans hsz
  refine lv_aload_n hx hb dX0_init_29 rfl (lv_at hl 0 rfl) ?_
  refine lv_iconst (v := 0) hx hb dX0_init_30 (by decide) (ti_c 0 (by decide) fun z8 hz8 => ?_)
  refine r_putiF C hw hnm rfl hq fl_X0_28 rfl rfl rfl dX0_init_31 (fun H locs hH hw => ?_)
  obtain ⟨ig9, eig9⟩ : ∃ f, f = up2 ig7 q 5 z8 := ⟨_, rfl⟩
  rw [← eig9] at hw
  have hsz := hH.trans hsz
  exact r_vret C hw hr hlk (Nat.le_of_ble_eq_true rfl) (Nat.le_of_ble_eq_true rfl) dX0_init_34 ⟨rfl, rfl, hsz, rfl, fun a j h => by rw [eig9, up2_a h, eig7, up2_a h, eig5, up2_a h, eig2, up2_a h, eig1, up2_a h], fun a j h => by rw [erg3, up2_a h]⟩

set_option maxHeartbeats 4000000 in
set_option maxRecDepth 100000 in
theorem t_X0_fits (l : Launch) (B : Nat) (D : va_G) (cA : Nat → ClassId) (kd : sK) (ig : sI) (rg : sR) (lg : sG) (sz : Nat) (x : Int32) (F : FS B kd ig rg) : MC l B D cA yX0_fits cX0_fits 2 (some .boolean) (rL 0 0 0) [.ref (B + 10), .int x] kd ig rg lg sz (Pu kd ig rg lg sz (fun r => ∃ z : Int32, r = some (.int z) ∧ z.toInt = 1)) := by
  refine MC.of (own := RX0) (by decide +kernel) rfl (Nat.le_of_ble_eq_true rfl) ?_
  intro p e s m args below meth c ls C hr hlk hnm hw hsz hl
  have hx := C.1.1
  have hb := C.1.2.1
  have hown := C.1.2.2.2.1
  have hts := C.1.2.2.2.2
  have hl : lv_has ls 2 [(0, .ref (B + 10)), (1, .int x)] := hl
  have Fs := F
  obtain ⟨hsh, hrs, hce, hbf, hbi, hsi, hke⟩ := F
  refine lv_aload_n hx hb dX0_fits_0 rfl (lv_at hl 0 rfl) ?_
  refine r_get C hw (hsh 10 _ rfl) fl_X0_18 (oV_n rfl hbf) dX0_fits_1 ?_
  refine lv_ifnullN (tgt := 18) hx hb dX0_fits_4 (by decide) ?_
  refine lv_iconst (v := 1) hx hb dX0_fits_18 (by decide) (ti_c 1 (by decide) fun z1 hz1 => ?_)
  refine lv_goto (tgt := 23) hx hb dX0_fits_19 (by decide) ?_
  exact r_iret C hw hr hlk (nar_b (by omega)) (Nat.le_of_ble_eq_true rfl) (Nat.le_of_ble_eq_true rfl) dX0_fits_23 ⟨rfl, rfl, rfl, rfl, hsz, _, rfl, by omega⟩

set_option maxHeartbeats 4000000 in
set_option maxRecDepth 100000 in
theorem t_X0_withoutUnit (l : Launch) (B : Nat) (D : va_G) (cA : Nat → ClassId) (kd : sK) (ig : sI) (rg : sR) (lg : sG) (sz : Nat) (F : FS B kd ig rg) : MC l B D cA yX0_withoutUnit cX0_withoutUnit 1 (some (.object "SheetDoctor$Cell")) (rL 0 0 0) [.ref (B + 10)] kd ig rg lg sz (Pu kd ig rg lg sz (fun r => r = some (.ref (B + 10)))) := by
  refine MC.of (own := RX0) (by decide +kernel) rfl (Nat.le_of_ble_eq_true rfl) ?_
  intro p e s m args below meth c ls C hr hlk hnm hw hsz hl
  have hx := C.1.1
  have hb := C.1.2.1
  have hown := C.1.2.2.2.1
  have hts := C.1.2.2.2.2
  have hl : lv_has ls 1 [(0, .ref (B + 10))] := hl
  have Fs := F
  obtain ⟨hsh, hrs, hce, hbf, hbi, hsi, hke⟩ := F
  refine lv_aload_n hx hb dX0_withoutUnit_0 rfl (lv_at hl 0 rfl) ?_
  refine r_get C hw (hsh 10 _ rfl) fl_X0_9 (oV_i rfl) dX0_withoutUnit_1 (ti_c (ig (B + 10) 0).toInt rfl fun z1 hz1 => ?_)
  have k2 : (ig (B + 10) (0)).toInt = 0 := z0 (Fs.bi (0))
  refine lv_iconst (v := 1) hx hb dX0_withoutUnit_4 (by decide) (ti_c 1 (by decide) fun z3 hz3 => ?_)
  refine b_ne (tgt := 24) hx hb dX0_withoutUnit_5 (by decide) (fun c5 => ?_) (fun c5 => ?_)
  · refine lv_aload_n hx hb dX0_withoutUnit_24 rfl (lv_at hl 0 rfl) ?_
    exact r_aret C hw hr hlk (Or.inr ⟨_, rfl⟩) (Nat.le_of_ble_eq_true rfl) (Nat.le_of_ble_eq_true rfl) dX0_withoutUnit_25 ⟨rfl, rfl, rfl, rfl, hsz, rfl⟩
  · exact absurd c5 (by omega)

set_option maxHeartbeats 4000000 in
set_option maxRecDepth 100000 in
theorem t_X6_copyFor (l : Launch) (B : Nat) (D : va_G) (cA : Nat → ClassId) (kd : sK) (ig : sI) (rg : sR) (lg : sG) (sz : Nat) (x y : Int32) (F : FS B kd ig rg) : MC l B D cA yX6_copyFor cX6_copyFor 4 (some (.object "SheetDoctor$Cell")) (rL 2 0 0) [.ref (B + 9), .int x, .int y] kd ig rg lg sz (Pu kd ig rg lg sz (fun r => r = some (.ref (B + 10)))) := by
  refine MC.of (own := RX6) (by decide +kernel) rfl (Nat.le_of_ble_eq_true rfl) ?_
  intro p e s m args below meth c ls C hr hlk hnm hw hsz hl
  have hx := C.1.1
  have hb := C.1.2.1
  have hown := C.1.2.2.2.1
  have hts := C.1.2.2.2.2
  have hl : lv_has ls 4 [(0, .ref (B + 9)), (1, .int x), (2, .int y)] := hl
  have Fs := F
  obtain ⟨hsh, hrs, hce, hbf, hbi, hsi, hke⟩ := F
  refine lv_aload_n hx hb dX6_copyFor_0 rfl (lv_at hl 0 rfl) ?_
  refine lv_iload_n hx hb dX6_copyFor_1 rfl (lv_at hl 1 rfl) ?_
  refine r_callV (As := [.int x]) (rest := []) C hw (t_X6_at l B D cA kd ig rg lg _ x Fs) sv_X6_53 (hsh 9 _ rfl) rfl hl.1 rfl (Nat.le_of_ble_eq_true rfl) ⟨Nat.le_of_ble_eq_true rfl, Nat.le_of_ble_eq_true rfl⟩ ⟨Nat.le_of_ble_eq_true rfl, Nat.le_of_ble_eq_true rfl⟩ dX6_copyFor_2 (fun r5 kd1 ig2 rg3 lg4 H locs hw hH hp6 => ?_)
  obtain ⟨rfl, rfl, rfl, rfl, hzhp6, rfl⟩ := hp6
  have hsz := hzhp6.trans hsz
  refine lv_astore_n (lv' := [(3, .ref (B + 10)), (0, .ref (B + 9)), (1, .int x), (2, .int y)]) hx hb dX6_copyFor_5 rfl hl (by decide) rfl (fun ls hl => ?_)
  refine lv_aload_n hx hb dX6_copyFor_6 rfl (lv_at hl 0 rfl) ?_
  refine lv_iload_n hx hb dX6_copyFor_7 rfl (lv_at hl 3 rfl) ?_
  refine r_callV (As := [.int y]) (rest := []) C hw (t_X0_fits l B D cA kd ig rg lg _ y Fs) sv_X6_57 (hsh 10 _ rfl) rfl hl.1 rfl (Nat.le_of_ble_eq_true rfl) ⟨Nat.le_of_ble_eq_true rfl, Nat.le_of_ble_eq_true rfl⟩ ⟨Nat.le_of_ble_eq_true rfl, Nat.le_of_ble_eq_true rfl⟩ dX6_copyFor_8 (fun r12 kd8 ig9 rg10 lg11 H locs hw hH hp13 => ?_)
  obtain ⟨rfl, rfl, rfl, rfl, hzz7, z7, rfl, hz7⟩ := hp13
  have hsz := hzz7.trans hsz
  refine z_eq (tgt := 21) hx hb dX6_copyFor_11 (by decide) (fun c11 => ?_) (fun c11 => ?_)
  · exact absurd c11 (by omega)
  · refine lv_aload_n hx hb dX6_copyFor_14 rfl (lv_at hl 0 rfl) ?_
    refine r_callV (As := []) (rest := []) C hw (t_X0_withoutUnit l B D cA kd ig rg lg _ Fs) sv_X6_60 (hsh 10 _ rfl) rfl hl.1 rfl (Nat.le_of_ble_eq_true rfl) ⟨Nat.le_of_ble_eq_true rfl, Nat.le_of_ble_eq_true rfl⟩ ⟨Nat.le_of_ble_eq_true rfl, Nat.le_of_ble_eq_true rfl⟩ dX6_copyFor_15 (fun r18 kd14 ig15 rg16 lg17 H locs hw hH hp19 => ?_)
    obtain ⟨rfl, rfl, rfl, rfl, hzhp19, rfl⟩ := hp19
    have hsz := hzhp19.trans hsz
    refine lv_goto (tgt := 22) hx hb dX6_copyFor_18 (by decide) ?_
    exact r_aret C hw hr hlk (Or.inr ⟨_, rfl⟩) (Nat.le_of_ble_eq_true rfl) (Nat.le_of_ble_eq_true rfl) dX6_copyFor_22 ⟨rfl, rfl, rfl, rfl, hsz, rfl⟩

set_option maxHeartbeats 4000000 in
set_option maxRecDepth 100000 in
theorem t_X6_isKept (l : Launch) (B : Nat) (D : va_G) (cA : Nat → ClassId) (kd : sK) (ig : sI) (rg : sR) (lg : sG) (sz : Nat) (x : Int32) (F : FS B kd ig rg) : MC l B D cA yX6_isKept cX6_isKept 2 (some .boolean) (rL 1 0 0) [.ref (B + 9), .int x] kd ig rg lg sz (Pu kd ig rg lg sz (fun r => ∃ z : Int32, r = some (.int z) ∧ z.toInt = 0)) := by
  refine MC.of (own := RX6) (by decide +kernel) rfl (Nat.le_of_ble_eq_true rfl) ?_
  intro p e s m args below meth c ls C hr hlk hnm hw hsz hl
  have hx := C.1.1
  have hb := C.1.2.1
  have hown := C.1.2.2.2.1
  have hts := C.1.2.2.2.2
  have hl : lv_has ls 2 [(0, .ref (B + 9)), (1, .int x)] := hl
  have Fs := F
  obtain ⟨hsh, hrs, hce, hbf, hbi, hsi, hke⟩ := F
  refine lv_iload_n hx hb dX6_isKept_0 rfl (lv_at hl 1 rfl) ?_
  refine r_callN (As := [.int x]) (rest := []) C hw (t_X11_onSheet l B D cA kd ig rg lg _ x) sn_X6_42 rfl hl.1 rfl (Nat.le_of_ble_eq_true rfl) ⟨Nat.le_of_ble_eq_true rfl, Nat.le_of_ble_eq_true rfl⟩ ⟨Nat.le_of_ble_eq_true rfl, Nat.le_of_ble_eq_true rfl⟩ dX6_isKept_1 (fun r6 kd2 ig3 rg4 lg5 H locs hw hH hp7 => ?_)
  obtain ⟨rfl, rfl, rfl, rfl, hzz1, z1, rfl, hz1⟩ := hp7
  have hsz := hzz1.trans hsz
  refine z_eq (tgt := 20) hx hb dX6_isKept_4 (by decide) (fun c4 => ?_) (fun c4 => ?_)
  · refine lv_iconst (v := 0) hx hb dX6_isKept_20 (by decide) (ti_c 0 (by decide) fun z8 hz8 => ?_)
    exact r_iret C hw hr hlk (nar_b (by omega)) (Nat.le_of_ble_eq_true rfl) (Nat.le_of_ble_eq_true rfl) dX6_isKept_21 ⟨rfl, rfl, rfl, rfl, hsz, _, rfl, by omega⟩
  · refine lv_aload_n hx hb dX6_isKept_7 rfl (lv_at hl 0 rfl) ?_
    refine r_get C hw (hsh 9 _ rfl) fl_X6_24 (oV_r rfl (hrs (9, 2, 12) (by decide))) dX6_isKept_8 ?_
    refine lv_iload_n hx hb dX6_isKept_11 rfl (lv_at hl 1 rfl) ?_
    refine r_zald C hw (hsh 12 _ rfl) (by omega) (by omega) dX6_isKept_12 (ti_c (ig (B + 12) x.toInt.toNat).toInt rfl fun z9 hz9 => ?_)
    have k10 : (ig (B + 12) (x.toInt.toNat)).toInt = 0 := z0 (Fs.ke (x.toInt.toNat))
    refine z_eq (tgt := 20) hx hb dX6_isKept_13 (by decide) (fun c13 => ?_) (fun c13 => ?_)
    · refine lv_iconst (v := 0) hx hb dX6_isKept_20 (by decide) (ti_c 0 (by decide) fun z11 hz11 => ?_)
      exact r_iret C hw hr hlk (nar_b (by omega)) (Nat.le_of_ble_eq_true rfl) (Nat.le_of_ble_eq_true rfl) dX6_isKept_21 ⟨rfl, rfl, rfl, rfl, hsz, _, rfl, by omega⟩
    · exact absurd c13 (by omega)

set_option maxHeartbeats 4000000 in
set_option maxRecDepth 100000 in
theorem t_X6_setKept (l : Launch) (B : Nat) (D : va_G) (cA : Nat → ClassId) (kd : sK) (ig : sI) (rg : sR) (lg : sG) (sz : Nat) (x y : Int32) (hy : y.toInt = 0 ∨ y.toInt = 1) (hsh : Sh B kd) (hrs : Rs B rg) : MC l B D cA yX6_setKept cX6_setKept 3 (some .boolean) (rL 1 0 0) [.ref (B + 9), .int x, .int y] kd ig rg lg sz (fun r kd' ig' rg' lg' n => kd = kd' ∧ rg = rg' ∧ lg = lg' ∧ n = sz ∧ (∃ z : Int32, r = some (.int z) ∧ ((0 ≤ x.toInt ∧ x.toInt < 288) → z.toInt = 1) ∧ (¬ (0 ≤ x.toInt ∧ x.toInt < 288) → z.toInt = 0)) ∧ Off B 9 15 ig' ig) := by
  refine MC.of (own := RX6) (by decide +kernel) rfl (Nat.le_of_ble_eq_true rfl) ?_
  intro p e s m args below meth c ls C hr hlk hnm hw hsz hl
  have hx := C.1.1
  have hb := C.1.2.1
  have hown := C.1.2.2.2.1
  have hts := C.1.2.2.2.2
  have hl : lv_has ls 3 [(0, .ref (B + 9)), (1, .int x), (2, .int y)] := hl
  have oig : Off B 9 15 ig ig := Off.rf
  refine lv_iload_n hx hb dX6_setKept_0 rfl (lv_at hl 1 rfl) ?_
  refine r_callN (As := [.int x]) (rest := []) C hw (t_X11_onSheet l B D cA kd ig rg lg _ x) sn_X6_42 rfl hl.1 rfl (Nat.le_of_ble_eq_true rfl) ⟨Nat.le_of_ble_eq_true rfl, Nat.le_of_ble_eq_true rfl⟩ ⟨Nat.le_of_ble_eq_true rfl, Nat.le_of_ble_eq_true rfl⟩ dX6_setKept_1 (fun r6 kd2 ig3 rg4 lg5 H locs hw hH hp7 => ?_)
  obtain ⟨rfl, rfl, rfl, rfl, hzz1, z1, rfl, hz1⟩ := hp7
  have hsz := hzz1.trans hsz
  refine z_ne (tgt := 9) hx hb dX6_setKept_4 (by decide) (fun c4 => ?_) (fun c4 => ?_)
  · refine lv_aload_n hx hb dX6_setKept_9 rfl (lv_at hl 0 rfl) ?_
    refine r_get C hw (hsh 9 _ rfl) fl_X6_24 (oV_r rfl (hrs (9, 2, 12) (by decide))) dX6_setKept_10 ?_
    refine lv_iload_n hx hb dX6_setKept_13 rfl (lv_at hl 1 rfl) ?_
    refine lv_iload_n hx hb dX6_setKept_14 rfl (lv_at hl 2 rfl) ?_
    refine r_zast C hw (hsh 12 _ rfl) (by omega) (by omega) (nar_b (by omega)) dX6_setKept_15 (fun H locs hH hw => ?_)
    obtain ⟨ig8, eig8⟩ : ∃ f, f = up2 ig (B + 12) x.toInt.toNat y := ⟨_, rfl⟩
    rw [← eig8] at hw
    have hsz := hH.trans hsz
    have oig : Off B 9 15 ig8 ig := fun a j h => by rw [eig8]; exact (up2_a (by omega)).trans (oig a j h)
    refine lv_iconst (v := 1) hx hb dX6_setKept_16 (by decide) (ti_c 1 (by decide) fun z9 hz9 => ?_)
    exact r_iret C hw hr hlk (nar_b (by omega)) (Nat.le_of_ble_eq_true rfl) (Nat.le_of_ble_eq_true rfl) dX6_setKept_17 ⟨rfl, rfl, rfl, hsz, ⟨_, rfl, by omega⟩, oig⟩
  · refine lv_iconst (v := 0) hx hb dX6_setKept_7 (by decide) (ti_c 0 (by decide) fun z10 hz10 => ?_)
    exact r_iret C hw hr hlk (nar_b (by omega)) (Nat.le_of_ble_eq_true rfl) (Nat.le_of_ble_eq_true rfl) dX6_setKept_8 ⟨rfl, rfl, rfl, hsz, ⟨_, rfl, by omega⟩, oig⟩

set_option maxHeartbeats 4000000 in
set_option maxRecDepth 100000 in
theorem t_X6_cellsOfKind (l : Launch) (B : Nat) (D : va_G) (cA : Nat → ClassId) (kd : sK) (ig : sI) (rg : sR) (lg : sG) (sz : Nat) (x : Int32) (hx0 : x.toInt = 1 ∨ x.toInt = 2) (F : FS B kd ig rg) : MC l B D cA yX6_cellsOfKind cX6_cellsOfKind 4 (some .int) (rL 0 0 0) [.ref (B + 9), .int x] kd ig rg lg sz (Pu kd ig rg lg sz (fun r => ∃ z : Int32, r = some (.int z) ∧ z.toInt = 0)) := by
  refine MC.of (own := RX6) (by decide +kernel) rfl (Nat.le_of_ble_eq_true rfl) ?_
  intro p e s m args below meth c ls C hr hlk hnm hw hsz hl
  have hx := C.1.1
  have hb := C.1.2.1
  have hown := C.1.2.2.2.1
  have hts := C.1.2.2.2.2
  have hl : lv_has ls 4 [(0, .ref (B + 9)), (1, .int x)] := hl
  have Fs := F
  obtain ⟨hsh, hrs, hce, hbf, hbi, hsi, hke⟩ := F
  refine lv_iconst (v := 0) hx hb dX6_cellsOfKind_0 (by decide) (ti_c 0 (by decide) fun z1 hz1 => ?_)
  refine lv_istore_n (lv' := [(2, .int z1), (0, .ref (B + 9)), (1, .int x)]) hx hb dX6_cellsOfKind_1 rfl hl (by decide) rfl (fun ls hl => ?_)
  refine lv_iconst (v := 0) hx hb dX6_cellsOfKind_2 (by decide) (ti_c 0 (by decide) fun z2 hz2 => ?_)
  refine lv_istore_n (lv' := [(3, .int z2), (2, .int z1), (0, .ref (B + 9)), (1, .int x)]) hx hb dX6_cellsOfKind_3 rfl hl (by decide) rfl (fun ls hl => ?_)
  have L4 : ∀ (n : Nat) (ls : Array Slot) (H : Heap) (locs : List Loc) (v3 : Int32), lv_has ls 4 [(3, .int v3), (2, .int z1), (0, .ref (B + 9)), (1, .int x)] → WD B D cA s.heap kd ig rg lg H locs → H.size = sz → (0 ≤ v3.toInt) → (v3.toInt ≤ 288) → 288 - v3.toInt < (n : Int) → W p l e (rL 0 0 0) s m args below meth c H locs 0 0 (MQ below (QcW B D cA (Pu kd ig rg lg sz (fun r => ∃ z : Int32, r = some (.int z) ∧ z.toInt = 0))) args s 0 0 (fun q => B ≤ q)) (F0 m 4 ls []) := by
    intro n
    induction n with
    | zero => intro ls H locs v3 hl hw hsz g4_0 g4_1 hmu; exact absurd hmu (by omega)
    | succ n ih =>
      intro ls H locs v3 hl hw hsz g4_0 g4_1 hmu
      refine lv_iload_n hx hb dX6_cellsOfKind_4 rfl (lv_at hl 0 rfl) ?_
      refine lv_sipush (v := 288) hx hb dX6_cellsOfKind_5 (by decide) (ti_c 288 (by decide) fun z4 hz4 => ?_)
      refine b_ge (tgt := 33) hx hb dX6_cellsOfKind_8 (by decide) (fun c8 => ?_) (fun c8 => ?_)
      · refine lv_iload_n hx hb dX6_cellsOfKind_33 rfl (lv_at hl 1 rfl) ?_
        exact r_iret C hw hr hlk rfl (Nat.le_of_ble_eq_true rfl) (Nat.le_of_ble_eq_true rfl) dX6_cellsOfKind_34 ⟨rfl, rfl, rfl, rfl, hsz, _, rfl, by omega⟩
      · refine lv_aload_n hx hb dX6_cellsOfKind_11 rfl (lv_at hl 2 rfl) ?_
        refine r_get C hw (hsh 9 _ rfl) fl_X6_20 (oV_r rfl (hrs (9, 1, 11) (by decide))) dX6_cellsOfKind_12 ?_
        refine lv_iload_n hx hb dX6_cellsOfKind_15 rfl (lv_at hl 0 rfl) ?_
        refine r_aald C hw (hsh 11 _ rfl) (by omega) (by omega) (by rw [hce _ (by omega)]) dX6_cellsOfKind_16 ?_
        refine r_get C hw (hsh 10 _ rfl) fl_X6_46 (oV_i rfl) dX6_cellsOfKind_17 (ti_c (ig (B + 10) 0).toInt rfl fun z5 hz5 => ?_)
        have k6 : (ig (B + 10) (0)).toInt = 0 := z0 (Fs.bi (0))
        refine lv_iload_n hx hb dX6_cellsOfKind_20 rfl (lv_at hl 3 rfl) ?_
        refine b_ne (tgt := 27) hx hb dX6_cellsOfKind_21 (by decide) (fun c21 => ?_) (fun c21 => ?_)
        · refine ti_inc hx hb dX6_cellsOfKind_27 hl (k := 0) rfl (by decide) (by decide) (by omega) (fun z7 hz7 ls hl => ?_)
          have hl : lv_has ls 4 [(3, .int z7), (2, .int z1), (0, .ref (B + 9)), (1, .int x)] := hl
          refine lv_goto (tgt := 4) hx hb dX6_cellsOfKind_30 (by decide) ?_
          exact ih ls H locs z7 (lv_sub hl [0, 1, 2, 3] rfl) hw hsz (by omega) (by omega) (by omega)
        · exact absurd c21 (by omega)
  exact L4 ((288 - z2.toInt) + 1).toNat ls s.heap [] z2 (lv_sub hl [0, 1, 2, 3] rfl) hw hsz (by omega) (by omega) (by omega)

set_option maxHeartbeats 4000000 in
set_option maxRecDepth 100000 in
theorem t_X6_replace (l : Launch) (B : Nat) (D : va_G) (cA : Nat → ClassId) (kd : sK) (ig : sI) (rg : sR) (lg : sG) (sz : Nat) (q nq : Nat) (x : Int32) (hq : kd q = some (0, nq)) (hv6 : (ig (B + 9) 6).toInt = 0) (hsh : Sh B kd) (hrs : Rs B rg) : MC l B D cA yX6_replace cX6_replace 3 none (rL 1 0 0) [.ref (B + 9), .int x, .ref q] kd ig rg lg sz (fun r kd' ig' rg' lg' n => kd = kd' ∧ Off B 9 15 rg' rg ∧ lg = lg' ∧ n = sz ∧ (r = none) ∧ Off B 9 15 ig' ig) := by
  refine MC.of (own := RX6) (by decide +kernel) rfl (Nat.le_of_ble_eq_true rfl) ?_
  intro p e s m args below meth c ls C hr hlk hnm hw hsz hl
  have hx := C.1.1
  have hb := C.1.2.1
  have hown := C.1.2.2.2.1
  have hts := C.1.2.2.2.2
  have hl : lv_has ls 3 [(0, .ref (B + 9)), (1, .int x), (2, .ref q)] := hl
  have oig : Off B 9 15 ig ig := Off.rf
  have org : Off B 9 15 rg rg := Off.rf
  refine lv_iload_n hx hb dX6_replace_0 rfl (lv_at hl 1 rfl) ?_
  refine r_callN (As := [.int x]) (rest := []) C hw (t_X11_onSheet l B D cA kd ig rg lg _ x) sn_X6_42 rfl hl.1 rfl (Nat.le_of_ble_eq_true rfl) ⟨Nat.le_of_ble_eq_true rfl, Nat.le_of_ble_eq_true rfl⟩ ⟨Nat.le_of_ble_eq_true rfl, Nat.le_of_ble_eq_true rfl⟩ dX6_replace_1 (fun r6 kd2 ig3 rg4 lg5 H locs hw hH hp7 => ?_)
  obtain ⟨rfl, rfl, rfl, rfl, hzz1, z1, rfl, hz1⟩ := hp7
  have hsz := hzz1.trans hsz
  refine z_eq (tgt := 24) hx hb dX6_replace_4 (by decide) (fun c4 => ?_) (fun c4 => ?_)
  · exact r_vret C hw hr hlk (Nat.le_of_ble_eq_true rfl) (Nat.le_of_ble_eq_true rfl) dX6_replace_24 ⟨rfl, org, rfl, hsz, rfl, oig⟩
  · refine lv_aload_n hx hb dX6_replace_7 rfl (lv_at hl 0 rfl) ?_
    refine r_get C hw (hsh 9 _ rfl) fl_X6_20 (oV_r rfl (hrs (9, 1, 11) (by decide))) dX6_replace_8 ?_
    refine lv_iload_n hx hb dX6_replace_11 rfl (lv_at hl 1 rfl) ?_
    refine lv_aload_n hx hb dX6_replace_12 rfl (lv_at hl 2 rfl) ?_
    refine r_aast C hw (hsh 11 _ rfl) hq (by omega) (by omega) dX6_replace_13 (fun H locs hH hw => ?_)
    obtain ⟨rg8, erg8⟩ : ∃ f, f = up2 rg (B + 11) x.toInt.toNat (some q) := ⟨_, rfl⟩
    rw [← erg8] at hw
    have hsz := hH.trans hsz
    have org : Off B 9 15 rg8 rg := fun a j h => by rw [erg8]; exact (up2_a (by omega)).trans (org a j h)
    refine lv_aload_n hx hb dX6_replace_14 rfl (lv_at hl 0 rfl) ?_
    refine lv_dup hx hb dX6_replace_15 rfl ?_
    refine r_get C hw (hsh 9 _ rfl) fl_X6_39 (oV_i rfl) dX6_replace_16 (ti_c (ig (B + 9) 6).toInt rfl fun z9 hz9 => ?_)
    refine lv_iconst (v := 1) hx hb dX6_replace_19 (by decide) (ti_c 1 (by decide) fun z10 hz10 => ?_)
    refine lv_iadd hx hb dX6_replace_20 (ti_add (by omega) fun z11 hz11 => ?_)
    refine r_puti C hw (hsh 9 _ rfl) fl_X6_39 rfl rfl rfl dX6_replace_21 (fun H locs hH hw => ?_)
    obtain ⟨ig12, eig12⟩ : ∃ f, f = up2 ig (B + 9) 6 z11 := ⟨_, rfl⟩
    rw [← eig12] at hw
    have hsz := hH.trans hsz
    have oig : Off B 9 15 ig12 ig := fun a j h => by rw [eig12]; exact (up2_a (by omega)).trans (oig a j h)
    exact r_vret C hw hr hlk (Nat.le_of_ble_eq_true rfl) (Nat.le_of_ble_eq_true rfl) dX6_replace_24 ⟨rfl, org, rfl, hsz, rfl, oig⟩

set_option maxHeartbeats 4000000 in
set_option maxRecDepth 100000 in
theorem t_X6_put (l : Launch) (B : Nat) (D : va_G) (cA : Nat → ClassId) (kd : sK) (ig : sI) (rg : sR) (lg : sG) (sz : Nat) (q nq : Nat) (x : Int32) (hq : kd q = some (0, nq)) (F : FS B kd ig rg) : MC l B D cA yX6_put cX6_put 3 none (rL 2 0 0) [.ref (B + 9), .int x, .ref q] kd ig rg lg sz (fun r kd' ig' rg' lg' n => kd = kd' ∧ Off B 9 15 rg' rg ∧ lg = lg' ∧ n = sz ∧ (r = none) ∧ Off B 9 15 ig' ig) := by
  refine MC.of (own := RX6) (by decide +kernel) rfl (Nat.le_of_ble_eq_true rfl) ?_
  intro p e s m args below meth c ls C hr hlk hnm hw hsz hl
  have hx := C.1.1
  have hb := C.1.2.1
  have hown := C.1.2.2.2.1
  have hts := C.1.2.2.2.2
  have hl : lv_has ls 3 [(0, .ref (B + 9)), (1, .int x), (2, .ref q)] := hl
  have Fs := F
  obtain ⟨hsh, hrs, hce, hbf, hbi, hsi, hke⟩ := F
  have oig : Off B 9 15 ig ig := Off.rf
  have org : Off B 9 15 rg rg := Off.rf
  refine lv_aload_n hx hb dX6_put_0 rfl (lv_at hl 0 rfl) ?_
  refine r_get C hw (hsh 9 _ rfl) fl_X6_35 (oV_i rfl) dX6_put_1 (ti_c (ig (B + 9) 5).toInt rfl fun z1 hz1 => ?_)
  have k2 : (ig (B + 9) 5).toInt = 0 := by exact z0 (Fs.si 5)
  refine lv_bipush (v := 20) hx hb dX6_put_4 (by decide) (ti_c 20 (by decide) fun z3 hz3 => ?_)
  refine b_lt (tgt := 13) hx hb dX6_put_6 (by decide) (fun c6 => ?_) (fun c6 => ?_)
  · refine lv_aload_n hx hb dX6_put_13 rfl (lv_at hl 0 rfl) ?_
    refine r_get C hw (hsh 9 _ rfl) fl_X6_28 (oV_r rfl (hrs (9, 3, 13) (by decide))) dX6_put_14 ?_
    refine lv_aload_n hx hb dX6_put_17 rfl (lv_at hl 0 rfl) ?_
    refine r_get C hw (hsh 9 _ rfl) fl_X6_35 (oV_i rfl) dX6_put_18 (ti_c (ig (B + 9) 5).toInt rfl fun z4 hz4 => ?_)
    have k5 : (ig (B + 9) 5).toInt = 0 := by exact z0 (Fs.si 5)
    refine lv_iload_n hx hb dX6_put_21 rfl (lv_at hl 1 rfl) ?_
    refine r_iast C hw (hsh 13 _ rfl) (by omega) (by omega) dX6_put_22 (fun H locs hH hw => ?_)
    obtain ⟨ig6, eig6⟩ : ∃ f, f = up2 ig (B + 13) z4.toInt.toNat x := ⟨_, rfl⟩
    rw [← eig6] at hw
    have hsz := hH.trans hsz
    have oig : Off B 9 15 ig6 ig := fun a j h => by rw [eig6]; exact (up2_a (by omega)).trans (oig a j h)
    refine lv_aload_n hx hb dX6_put_23 rfl (lv_at hl 0 rfl) ?_
    refine r_get C hw (hsh 9 _ rfl) fl_X6_32 (oV_r rfl (hrs (9, 4, 14) (by decide))) dX6_put_24 ?_
    refine lv_aload_n hx hb dX6_put_27 rfl (lv_at hl 0 rfl) ?_
    refine r_get C hw (hsh 9 _ rfl) fl_X6_35 (oV_i rfl) dX6_put_28 (ti_c (ig6 (B + 9) 5).toInt rfl fun z7 hz7 => ?_)
    have k8 : (ig6 (B + 9) 5).toInt = 0 := by rw [eig6, up2_a (by omega)]; exact z0 (Fs.si 5)
    refine lv_aload_n hx hb dX6_put_31 rfl (lv_at hl 0 rfl) ?_
    refine lv_iload_n hx hb dX6_put_32 rfl (lv_at hl 1 rfl) ?_
    refine r_callV (As := [.int x]) (rest := [.int z7, .ref (B + 14)]) C hw (t_X6_at l B D cA kd ig6 rg lg _ x (FS.of3 Fs (fun j => by rw [eig6, up2_a (by omega)]) (fun j => by rw [eig6, up2_a (by omega)]) (fun j => by rw [eig6, up2_a (by omega)]))) sv_X6_53 (hsh 9 _ rfl) rfl hl.1 rfl (Nat.le_of_ble_eq_true rfl) ⟨Nat.le_of_ble_eq_true rfl, Nat.le_of_ble_eq_true rfl⟩ ⟨Nat.le_of_ble_eq_true rfl, Nat.le_of_ble_eq_true rfl⟩ dX6_put_33 (fun r13 kd9 ig10 rg11 lg12 H locs hw hH hp14 => ?_)
    obtain ⟨rfl, rfl, rfl, rfl, hzhp14, rfl⟩ := hp14
    have hsz := hzhp14.trans hsz
    refine r_aast C hw (hsh 14 _ rfl) (hsh 10 _ rfl) (by omega) (by omega) dX6_put_36 (fun H locs hH hw => ?_)
    obtain ⟨rg15, erg15⟩ : ∃ f, f = up2 rg (B + 14) z7.toInt.toNat (some (B + 10)) := ⟨_, rfl⟩
    rw [← erg15] at hw
    have hsz := hH.trans hsz
    have org : Off B 9 15 rg15 rg := fun a j h => by rw [erg15]; exact (up2_a (by omega)).trans (org a j h)
    refine lv_aload_n hx hb dX6_put_37 rfl (lv_at hl 0 rfl) ?_
    refine lv_dup hx hb dX6_put_38 rfl ?_
    refine r_get C hw (hsh 9 _ rfl) fl_X6_35 (oV_i rfl) dX6_put_39 (ti_c (ig6 (B + 9) 5).toInt rfl fun z16 hz16 => ?_)
    have k17 : (ig6 (B + 9) 5).toInt = 0 := by rw [eig6, up2_a (by omega)]; exact z0 (Fs.si 5)
    refine lv_iconst (v := 1) hx hb dX6_put_42 (by decide) (ti_c 1 (by decide) fun z18 hz18 => ?_)
    refine lv_iadd hx hb dX6_put_43 (ti_add (by omega) fun z19 hz19 => ?_)
    refine r_puti C hw (hsh 9 _ rfl) fl_X6_35 rfl rfl rfl dX6_put_44 (fun H locs hH hw => ?_)
    obtain ⟨ig20, eig20⟩ : ∃ f, f = up2 ig6 (B + 9) 5 z19 := ⟨_, rfl⟩
    rw [← eig20] at hw
    have hsz := hH.trans hsz
    have oig : Off B 9 15 ig20 ig := fun a j h => by rw [eig20]; exact (up2_a (by omega)).trans (oig a j h)
    refine lv_aload_n hx hb dX6_put_47 rfl (lv_at hl 0 rfl) ?_
    refine lv_iload_n hx hb dX6_put_48 rfl (lv_at hl 1 rfl) ?_
    refine lv_aload_n hx hb dX6_put_49 rfl (lv_at hl 2 rfl) ?_
    refine r_callV (As := [.int x, .ref q]) (rest := []) C hw (t_X6_replace l B D cA kd ig20 rg15 lg _ q _ x hq (by rw [eig20, up2_j (by decide), eig6, up2_a (by omega)]; exact z0 (Fs.si 6)) hsh (by rw [erg15]; exact Rs.up hrs (by decide))) sv_X6_67 (hsh 9 _ rfl) rfl hl.1 rfl (Nat.le_of_ble_eq_true rfl) ⟨Nat.le_of_ble_eq_true rfl, Nat.le_of_ble_eq_true rfl⟩ ⟨Nat.le_of_ble_eq_true rfl, Nat.le_of_ble_eq_true rfl⟩ dX6_put_50 (fun r26 kd22 ig23 rg24 lg25 H locs hw hH hp27 => ?_)
    obtain ⟨rfl, ra21, rfl, hq21, rfl, oa21⟩ := hp27
    have hsz := hq21.trans hsz
    have oig := Off.tr (lo := 9) (hi := 15) oa21 oig (by decide) (by decide)
    have org := Off.tr (lo := 9) (hi := 15) ra21 org (by decide) (by decide)
    exact r_vret C hw hr hlk (Nat.le_of_ble_eq_true rfl) (Nat.le_of_ble_eq_true rfl) dX6_put_53 ⟨rfl, org, rfl, hsz, rfl, oig⟩
  · exact absurd c6 (by omega)

set_option maxHeartbeats 4000000 in
set_option maxRecDepth 100000 in
theorem t_J13_bitCount_95d88 (l : Launch) (B : Nat) (D : va_G) (cA : Nat → ClassId) (kd : sK) (ig : sI) (rg : sR) (lg : sG) (sz : Nat) (x : Int64) (hx0 : x = 0) : MC l B D cA yJ13_bitCount_95d88 cJ13_bitCount_95d88 2 (some .int) (rL 0 0 0) [.long x] kd ig rg lg sz (Pu kd ig rg lg sz (fun r => ∃ z : Int32, r = some (.int z) ∧ z.toInt = 0)) := by
  refine MC.of (own := RJ13) (by decide +kernel) rfl (Nat.le_of_ble_eq_true rfl) ?_
  intro p e s m args below meth c ls C hr hlk hnm hw hsz hl
  have hx := C.1.1
  have hb := C.1.2.1
  have hown := C.1.2.2.2.1
  have hts := C.1.2.2.2.2
  have hl : lv_has ls 2 [(0, .long x)] := hl
  refine lv_lload_n hx hb dJ13_bitCount_95d88_0 rfl (lv_at hl 0 rfl) ?_
  refine lv_lload_n hx hb dJ13_bitCount_95d88_1 rfl (lv_at hl 0 rfl) ?_
  refine lv_iconst (v := 1) hx hb dJ13_bitCount_95d88_2 (by decide) (ti_c 1 (by decide) fun z1 hz1 => ?_)
  refine lv_lushr hx hb dJ13_bitCount_95d88_3 rfl (lv_topl fun x2 hx2 => ?_)
  refine lv_ldc2 (v := 6148914691236517205) hx hb hown (hts _ kl_J13_314) dJ13_bitCount_95d88_4 (lv_topl fun x3 hx3 => ?_)
  refine lv_land hx hb dJ13_bitCount_95d88_7 (lv_topl fun x4 hx4 => ?_)
  refine lv_lsub hx hb dJ13_bitCount_95d88_8 (lv_topl fun x5 hx5 => ?_)
  refine lv_lstore_n (lv' := [(0, .long x5)]) hx hb dJ13_bitCount_95d88_9 rfl hl (by decide) rfl (fun ls hl => ?_)
  refine lv_lload_n hx hb dJ13_bitCount_95d88_10 rfl (lv_at hl 0 rfl) ?_
  refine lv_ldc2 (v := 3689348814741910323) hx hb hown (hts _ kl_J13_316) dJ13_bitCount_95d88_11 (lv_topl fun x6 hx6 => ?_)
  refine lv_land hx hb dJ13_bitCount_95d88_14 (lv_topl fun x7 hx7 => ?_)
  refine lv_lload_n hx hb dJ13_bitCount_95d88_15 rfl (lv_at hl 0 rfl) ?_
  refine lv_iconst (v := 2) hx hb dJ13_bitCount_95d88_16 (by decide) (ti_c 2 (by decide) fun z8 hz8 => ?_)
  refine lv_lushr hx hb dJ13_bitCount_95d88_17 rfl (lv_topl fun x9 hx9 => ?_)
  refine lv_ldc2 (v := 3689348814741910323) hx hb hown (hts _ kl_J13_316) dJ13_bitCount_95d88_18 (lv_topl fun x10 hx10 => ?_)
  refine lv_land hx hb dJ13_bitCount_95d88_21 (lv_topl fun x11 hx11 => ?_)
  refine lv_ladd hx hb dJ13_bitCount_95d88_22 (lv_topl fun x12 hx12 => ?_)
  refine lv_lstore_n (lv' := [(0, .long x12)]) hx hb dJ13_bitCount_95d88_23 rfl hl (by decide) rfl (fun ls hl => ?_)
  refine lv_lload_n hx hb dJ13_bitCount_95d88_24 rfl (lv_at hl 0 rfl) ?_
  refine lv_lload_n hx hb dJ13_bitCount_95d88_25 rfl (lv_at hl 0 rfl) ?_
  refine lv_iconst (v := 4) hx hb dJ13_bitCount_95d88_26 (by decide) (ti_c 4 (by decide) fun z13 hz13 => ?_)
  refine lv_lushr hx hb dJ13_bitCount_95d88_27 rfl (lv_topl fun x14 hx14 => ?_)
  refine lv_ladd hx hb dJ13_bitCount_95d88_28 (lv_topl fun x15 hx15 => ?_)
  refine lv_ldc2 (v := 1085102592571150095) hx hb hown (hts _ kl_J13_318) dJ13_bitCount_95d88_29 (lv_topl fun x16 hx16 => ?_)
  refine lv_land hx hb dJ13_bitCount_95d88_32 (lv_topl fun x17 hx17 => ?_)
  refine lv_lstore_n (lv' := [(0, .long x17)]) hx hb dJ13_bitCount_95d88_33 rfl hl (by decide) rfl (fun ls hl => ?_)
  refine lv_lload_n hx hb dJ13_bitCount_95d88_34 rfl (lv_at hl 0 rfl) ?_
  refine lv_lload_n hx hb dJ13_bitCount_95d88_35 rfl (lv_at hl 0 rfl) ?_
  refine lv_bipush (v := 8) hx hb dJ13_bitCount_95d88_36 (by decide) (ti_c 8 (by decide) fun z18 hz18 => ?_)
  refine lv_lushr hx hb dJ13_bitCount_95d88_38 rfl (lv_topl fun x19 hx19 => ?_)
  refine lv_ladd hx hb dJ13_bitCount_95d88_39 (lv_topl fun x20 hx20 => ?_)
  refine lv_lstore_n (lv' := [(0, .long x20)]) hx hb dJ13_bitCount_95d88_40 rfl hl (by decide) rfl (fun ls hl => ?_)
  refine lv_lload_n hx hb dJ13_bitCount_95d88_41 rfl (lv_at hl 0 rfl) ?_
  refine lv_lload_n hx hb dJ13_bitCount_95d88_42 rfl (lv_at hl 0 rfl) ?_
  refine lv_bipush (v := 16) hx hb dJ13_bitCount_95d88_43 (by decide) (ti_c 16 (by decide) fun z21 hz21 => ?_)
  refine lv_lushr hx hb dJ13_bitCount_95d88_45 rfl (lv_topl fun x22 hx22 => ?_)
  refine lv_ladd hx hb dJ13_bitCount_95d88_46 (lv_topl fun x23 hx23 => ?_)
  refine lv_lstore_n (lv' := [(0, .long x23)]) hx hb dJ13_bitCount_95d88_47 rfl hl (by decide) rfl (fun ls hl => ?_)
  refine lv_lload_n hx hb dJ13_bitCount_95d88_48 rfl (lv_at hl 0 rfl) ?_
  refine lv_lload_n hx hb dJ13_bitCount_95d88_49 rfl (lv_at hl 0 rfl) ?_
  refine lv_bipush (v := 32) hx hb dJ13_bitCount_95d88_50 (by decide) (ti_c 32 (by decide) fun z24 hz24 => ?_)
  refine lv_lushr hx hb dJ13_bitCount_95d88_52 rfl (lv_topl fun x25 hx25 => ?_)
  refine lv_ladd hx hb dJ13_bitCount_95d88_53 (lv_topl fun x26 hx26 => ?_)
  refine lv_lstore_n (lv' := [(0, .long x26)]) hx hb dJ13_bitCount_95d88_54 rfl hl (by decide) rfl (fun ls hl => ?_)
  refine lv_lload_n hx hb dJ13_bitCount_95d88_55 rfl (lv_at hl 0 rfl) ?_
  refine lv_l2i hx hb dJ13_bitCount_95d88_56 rfl (lv_topi fun z27 hz27 => ?_)
  refine lv_bipush (v := 127) hx hb dJ13_bitCount_95d88_57 (by decide) (ti_c 127 (by decide) fun z28 hz28 => ?_)
  refine lv_iand hx hb dJ13_bitCount_95d88_59 (lv_topi fun z29 hz29 => ?_)
  have a2 : x2 = 0 := by rw [hx2, hx0]; exact l_ush0 _
  have a4 : x4 = 0 := by simp [hx4, a2]
  have a5 : x5 = 0 := by simp [hx5, hx0, a4]
  have a7 : x7 = 0 := by simp [hx7, a5]
  have a9 : x9 = 0 := by rw [hx9, a5]; exact l_ush0 _
  have a11 : x11 = 0 := by simp [hx11, a9]
  have a12 : x12 = 0 := by simp [hx12, a7, a11]
  have a14 : x14 = 0 := by rw [hx14, a12]; exact l_ush0 _
  have a15 : x15 = 0 := by simp [hx15, a12, a14]
  have a17 : x17 = 0 := by simp [hx17, a15]
  have a19 : x19 = 0 := by rw [hx19, a17]; exact l_ush0 _
  have a20 : x20 = 0 := by simp [hx20, a17, a19]
  have a22 : x22 = 0 := by rw [hx22, a20]; exact l_ush0 _
  have a23 : x23 = 0 := by simp [hx23, a20, a22]
  have a25 : x25 = 0 := by rw [hx25, a23]; exact l_ush0 _
  have a26 : x26 = 0 := by simp [hx26, a23, a25]
  have a27 : z27 = 0 := by rw [hz27, a26]; rfl
  have a29 : z29 = 0 := by simp [hz29, a27]
  exact r_iret C hw hr hlk rfl (Nat.le_of_ble_eq_true rfl) (Nat.le_of_ble_eq_true rfl) dJ13_bitCount_95d88_60 ⟨rfl, rfl, rfl, rfl, hsz, _, rfl, z0 a29⟩

set_option maxHeartbeats 4000000 in
set_option maxRecDepth 100000 in
theorem t_X5_cellsReadBy (l : Launch) (B : Nat) (D : va_G) (cA : Nat → ClassId) (kd : sK) (ig : sI) (rg : sR) (lg : sG) (sz : Nat) (x : Int32) (hsh : Sh B kd) (hrs : Rs B rg) (hrd : ∀ j, lg (B + 18) j = 0) : MC l B D cA yX5_cellsReadBy cX5_cellsReadBy 4 (some .int) (rL 1 0 0) [.ref (B + 15), .int x] kd ig rg lg sz (Pu kd ig rg lg sz (fun r => ∃ z : Int32, r = some (.int z) ∧ z.toInt = 0)) := by
  refine MC.of (own := RX5) (by decide +kernel) rfl (Nat.le_of_ble_eq_true rfl) ?_
  intro p e s m args below meth c ls C hr hlk hnm hw hsz hl
  have hx := C.1.1
  have hb := C.1.2.1
  have hown := C.1.2.2.2.1
  have hts := C.1.2.2.2.2
  have hl : lv_has ls 4 [(0, .ref (B + 15)), (1, .int x)] := hl
  refine lv_iconst (v := 0) hx hb dX5_cellsReadBy_0 (by decide) (ti_c 0 (by decide) fun z1 hz1 => ?_)
  refine lv_istore_n (lv' := [(2, .int z1), (0, .ref (B + 15)), (1, .int x)]) hx hb dX5_cellsReadBy_1 rfl hl (by decide) rfl (fun ls hl => ?_)
  refine lv_iload_n hx hb dX5_cellsReadBy_2 rfl (lv_at hl 2 rfl) ?_
  refine r_callN (As := [.int x]) (rest := []) C hw (t_X11_onSheet l B D cA kd ig rg lg _ x) sn_X5_75 rfl hl.1 rfl (Nat.le_of_ble_eq_true rfl) ⟨Nat.le_of_ble_eq_true rfl, Nat.le_of_ble_eq_true rfl⟩ ⟨Nat.le_of_ble_eq_true rfl, Nat.le_of_ble_eq_true rfl⟩ dX5_cellsReadBy_3 (fun r7 kd3 ig4 rg5 lg6 H locs hw hH hp8 => ?_)
  obtain ⟨rfl, rfl, rfl, rfl, hzz2, z2, rfl, hz2⟩ := hp8
  have hsz := hzz2.trans hsz
  have J38 : ∀ (ls : Array Slot) (H : Heap) (locs : List Loc) (v9 : Int32), lv_has ls 4 [(2, .int v9)] → WD B D cA s.heap kd ig rg lg H locs → H.size = sz → (v9.toInt = 0) → W p l e (rL 1 0 0) s m args below meth c H locs 0 0 (MQ below (QcW B D cA (Pu kd ig rg lg sz (fun r => ∃ z : Int32, r = some (.int z) ∧ z.toInt = 0))) args s 0 0 (fun q => B ≤ q)) (F0 m 38 ls []) := by
    intro ls H locs v9 hl hw hsz g38_0
    refine lv_iload_n hx hb dX5_cellsReadBy_38 rfl (lv_at hl 0 rfl) ?_
    exact r_iret C hw hr hlk rfl (Nat.le_of_ble_eq_true rfl) (Nat.le_of_ble_eq_true rfl) dX5_cellsReadBy_39 ⟨rfl, rfl, rfl, rfl, hsz, _, rfl, by omega⟩
  refine z_eq (tgt := 38) hx hb dX5_cellsReadBy_6 (by decide) (fun c6 => ?_) (fun c6 => ?_)
  · exact J38 ls H locs z1 (lv_sub hl [0] rfl) hw hsz (by omega)
  · refine lv_iconst (v := 0) hx hb dX5_cellsReadBy_9 (by decide) (ti_c 0 (by decide) fun z10 hz10 => ?_)
    refine lv_istore_n (lv' := [(3, .int z10), (2, .int z1), (0, .ref (B + 15)), (1, .int x)]) hx hb dX5_cellsReadBy_10 rfl hl (by decide) rfl (fun ls hl => ?_)
    have L11 : ∀ (n : Nat) (ls : Array Slot) (H : Heap) (locs : List Loc) (v11 : Int32) (v12 : Int32), lv_has ls 4 [(3, .int v11), (2, .int v12), (0, .ref (B + 15)), (1, .int x)] → WD B D cA s.heap kd ig rg lg H locs → H.size = sz → (0 ≤ v11.toInt) → (v11.toInt ≤ 5) → (v12.toInt = 0) → 5 - v11.toInt < (n : Int) → W p l e (rL 1 0 0) s m args below meth c H locs 0 0 (MQ below (QcW B D cA (Pu kd ig rg lg sz (fun r => ∃ z : Int32, r = some (.int z) ∧ z.toInt = 0))) args s 0 0 (fun q => B ≤ q)) (F0 m 11 ls []) := by
      intro n
      induction n with
      | zero => intro ls H locs v11 v12 hl hw hsz g11_0 g11_1 g11_2 hmu; exact absurd hmu (by omega)
      | succ n ih =>
        intro ls H locs v11 v12 hl hw hsz g11_0 g11_1 g11_2 hmu
        refine lv_iload_n hx hb dX5_cellsReadBy_11 rfl (lv_at hl 0 rfl) ?_
        refine lv_iconst (v := 5) hx hb dX5_cellsReadBy_12 (by decide) (ti_c 5 (by decide) fun z13 hz13 => ?_)
        refine b_ge (tgt := 38) hx hb dX5_cellsReadBy_13 (by decide) (fun c13 => ?_) (fun c13 => ?_)
        · exact J38 ls H locs v12 (lv_sub hl [1] rfl) hw hsz (by omega)
        · refine lv_iload_n hx hb dX5_cellsReadBy_16 rfl (lv_at hl 1 rfl) ?_
          refine lv_aload_n hx hb dX5_cellsReadBy_17 rfl (lv_at hl 2 rfl) ?_
          refine r_get C hw (hsh 15 _ rfl) fl_X5_23 (oV_r rfl (hrs (15, 4, 18) (by decide))) dX5_cellsReadBy_18 ?_
          refine lv_iload_n hx hb dX5_cellsReadBy_21 rfl (lv_at hl 3 rfl) ?_
          refine lv_iconst (v := 5) hx hb dX5_cellsReadBy_22 (by decide) (ti_c 5 (by decide) fun z14 hz14 => ?_)
          refine lv_imul hx hb dX5_cellsReadBy_23 (ti_mulR 5 hz14 (by omega) fun z15 hz15 => ?_)
          refine lv_iload_n hx hb dX5_cellsReadBy_24 rfl (lv_at hl 0 rfl) ?_
          refine lv_iadd hx hb dX5_cellsReadBy_25 (ti_add (by omega) fun z16 hz16 => ?_)
          refine r_lald C hw (hsh 18 _ rfl) (by omega) (by omega) dX5_cellsReadBy_26 (lv_topl fun x17 hx17 => ?_)
          have klast := hrd (z16.toInt.toNat)
          refine r_callS (As := [.long x17]) (rest := [.int v12]) C hw (t_J13_bitCount_95d88 l B D cA kd ig rg lg _ x17 (hx17.trans klast)) ss_X5_79 rfl hl.1 rfl (Nat.le_of_ble_eq_true rfl) ⟨Nat.le_of_ble_eq_true rfl, Nat.le_of_ble_eq_true rfl⟩ ⟨Nat.le_of_ble_eq_true rfl, Nat.le_of_ble_eq_true rfl⟩ dX5_cellsReadBy_27 (fun r23 kd19 ig20 rg21 lg22 H locs hw hH hp24 => ?_)
          obtain ⟨rfl, rfl, rfl, rfl, hzz18, z18, rfl, hz18⟩ := hp24
          have hsz := hzz18.trans hsz
          refine lv_iadd hx hb dX5_cellsReadBy_30 (ti_add (by omega) fun z25 hz25 => ?_)
          refine lv_istore_n (lv' := [(2, .int z25), (3, .int v11), (0, .ref (B + 15)), (1, .int x)]) hx hb dX5_cellsReadBy_31 rfl hl (by decide) rfl (fun ls hl => ?_)
          refine ti_inc hx hb dX5_cellsReadBy_32 hl (k := 1) rfl (by decide) (by decide) (by omega) (fun z26 hz26 ls hl => ?_)
          have hl : lv_has ls 4 [(3, .int z26), (2, .int z25), (0, .ref (B + 15)), (1, .int x)] := hl
          refine lv_goto (tgt := 11) hx hb dX5_cellsReadBy_35 (by decide) ?_
          exact ih ls H locs z26 z25 (lv_sub hl [0, 1, 2, 3] rfl) hw hsz (by omega) (by omega) (by omega) (by omega)
    exact L11 ((5 - z10.toInt) + 1).toNat ls H locs z10 z1 (lv_sub hl [0, 1, 2, 3] rfl) hw hsz (by omega) (by omega) (by omega) (by omega)

set_option maxHeartbeats 4000000 in
set_option maxRecDepth 100000 in
theorem t_X5_readersOf (l : Launch) (B : Nat) (D : va_G) (cA : Nat → ClassId) (kd : sK) (ig : sI) (rg : sR) (lg : sG) (sz : Nat) (x : Int32) (hsh : Sh B kd) (hrs : Rs B rg) (hfc : ig (B + 15) 2 = 0) : MC l B D cA yX5_readersOf cX5_readersOf 4 (some .int) (rL 0 0 0) [.ref (B + 15), .int x] kd ig rg lg sz (Pu kd ig rg lg sz (fun r => ∃ z : Int32, r = some (.int z) ∧ z.toInt = 0)) := by
  refine MC.of (own := RX5) (by decide +kernel) rfl (Nat.le_of_ble_eq_true rfl) ?_
  intro p e s m args below meth c ls C hr hlk hnm hw hsz hl
  have hx := C.1.1
  have hb := C.1.2.1
  have hown := C.1.2.2.2.1
  have hts := C.1.2.2.2.2
  have hl : lv_has ls 4 [(0, .ref (B + 15)), (1, .int x)] := hl
  refine lv_iconst (v := 0) hx hb dX5_readersOf_0 (by decide) (ti_c 0 (by decide) fun z1 hz1 => ?_)
  refine lv_istore_n (lv' := [(2, .int z1), (0, .ref (B + 15)), (1, .int x)]) hx hb dX5_readersOf_1 rfl hl (by decide) rfl (fun ls hl => ?_)
  refine lv_iconst (v := 0) hx hb dX5_readersOf_2 (by decide) (ti_c 0 (by decide) fun z2 hz2 => ?_)
  refine lv_istore_n (lv' := [(3, .int z2), (2, .int z1), (0, .ref (B + 15)), (1, .int x)]) hx hb dX5_readersOf_3 rfl hl (by decide) rfl (fun ls hl => ?_)
  refine lv_iload_n hx hb dX5_readersOf_4 rfl (lv_at hl 0 rfl) ?_
  refine lv_aload_n hx hb dX5_readersOf_5 rfl (lv_at hl 2 rfl) ?_
  refine r_get C hw (hsh 15 _ rfl) fl_X5_58 (oV_i rfl) dX5_readersOf_6 (ti_c (ig (B + 15) 2).toInt rfl fun z3 hz3 => ?_)
  have k4 : (ig (B + 15) (2)).toInt = 0 := by exact z0 (hfc)
  refine b_ge (tgt := 38) hx hb dX5_readersOf_9 (by decide) (fun c9 => ?_) (fun c9 => ?_)
  · refine lv_iload_n hx hb dX5_readersOf_38 rfl (lv_at hl 1 rfl) ?_
    exact r_iret C hw hr hlk rfl (Nat.le_of_ble_eq_true rfl) (Nat.le_of_ble_eq_true rfl) dX5_readersOf_39 ⟨rfl, rfl, rfl, rfl, hsz, _, rfl, by omega⟩
  · exact absurd c9 (by omega)
end
section
/-- the model's part is the same -/
def Mo {α : Type} (B : Nat) (f g : Nat → Nat → α) : Prop := ∀ a j, B + 49 ≤ a → a < B + 80 → f a j = g a j
theorem Mo.rf {α : Type} {B : Nat} {f : Nat → Nat → α} : Mo B f f := fun _ _ _ _ => rfl
theorem Off.mo {α : Type} {B lo hi : Nat} {f g : Nat → Nat → α} (h : Off B lo hi f g) (e : hi ≤ 49) : Mo B f g := fun a j h1 h2 => h a j (by omega)
def TP (B : Nat) (kd : sK) (ig : sI) (rg : sR) (lg : sG) (res : Option Value → Prop) : aP := fun r kd' ig' rg' lg' n => (∀ a, a < B + 80 → kd' a = kd a) ∧ Mo B ig' ig ∧ Mo B rg' rg ∧ Mo B lg' lg ∧ res r
theorem Sh.ag {B : Nat} {kd kd' : sK} (h : Sh B kd) (e0 : ∀ a, a < B + 80 → kd' a = kd a) : Sh B kd' := by
  intro c q hc
  have h1 : c < 80 := (List.getElem?_eq_some_iff.mp hc).1
  rw [e0 _ (by omega)]
  exact h c q hc
theorem Rs.ag {B : Nat} {rg rg' : sR} (h : Rs B rg) (e0 : ∀ a j, a < B + 80 → rg' a j = rg a j) : Rs B rg' := by
  intro x hx
  have h1 : ∀ x ∈ rfp, x.1 < 80 := by decide
  have h2 := h1 x hx
  rw [e0 _ _ (by omega)]
  exact h x hx
theorem FS.ag {B : Nat} {kd kd' : sK} {ig ig' : sI} {rg rg' : sR} (h : FS B kd ig rg) (e0 : ∀ a, a < B + 80 → kd' a = kd a) (e1 : ∀ a j, a < B + 80 → ig' a j = ig a j) (e2 : ∀ a j, a < B + 80 → rg' a j = rg a j) : FS B kd' ig' rg' := by
  obtain ⟨h1, h2, h3, h4, h5, h6, h7⟩ := h
  exact ⟨h1.ag e0, h2.ag e2, fun j hj => (e2 _ _ (by omega)).trans (h3 j hj), (e2 _ _ (by omega)).trans h4, fun j => (e1 _ _ (by omega)).trans (h5 j), fun j => (e1 _ _ (by omega)).trans (h6 j), fun j => (e1 _ _ (by omega)).trans (h7 j)⟩
/-- the class as new SheetDoctor() leaves it -/
def FC (B : Nat) (kd : sK) (ig : sI) (rg : sR) (lg : sG) : Prop := FS B kd ig rg ∧ ig (B + 1) 1 = 0 ∧ ig (B + 24) 8 = -1 ∧ ig (B + 29) 4 = -1 ∧ ig (B + 32) 8 = -1 ∧ ig (B + 37) 7 = -1 ∧ ig (B + 15) 2 = 0 ∧ ig (B + 15) 9 = 0 ∧ ig (B + 43) 6 = 0 ∧ ig (B + 45) 4 = 0 ∧ ∀ j, lg (B + 18) j = 0

set_option maxHeartbeats 4000000 in
set_option maxRecDepth 100000 in
theorem t_X11_feed (l : Launch) (B : Nat) (D : va_G) (cA : Nat → ClassId) (kd : sK) (ig : sI) (rg : sR) (lg : sG) (sz : Nat) (a b c0 : Int64) (F9 : FC B kd ig rg lg) : MC l B D cA yX11_feed cX11_feed 7 (some .int) (rL 6 0 0) [.ref (B + 0), .long a, .long b, .long c0] kd ig rg lg sz (TP B kd ig rg lg (fun r => ∃ z : Int32, r = some (.int z) ∧ z.toInt = ((cn (by8 a) 8 + cn (by8 b) 8 + cn (by8 c0) 8 : Nat) : Int))) := by
  refine MC.of (own := RX11) (by decide +kernel) rfl (Nat.le_of_ble_eq_true rfl) ?_
  intro p e s m args below meth c ls C hr hlk hnm hw hsz hl
  have hx := C.1.1
  have hb := C.1.2.1
  have hown := C.1.2.2.2.1
  have hts := C.1.2.2.2.2
  have hl : lv_has ls 7 [(0, .ref (B + 0)), (1, .long a), (3, .long b), (5, .long c0)] := hl
  obtain ⟨Fs, hle, hv10, hv2, hv9, hv8, hfc, hfo, hfn, hch, hrd⟩ := F9
  have Fq := Fs
  obtain ⟨hsh, hrs, hce, hbf, hbi, hsi, hke⟩ := Fq
  have h0 := z0 hle
  have oig : Off B 0 49 ig ig := Off.rf
  have org : Off B 0 49 rg rg := Off.rf
  have olg : Off B 0 49 lg lg := Off.rf
  refine lv_aload_n hx hb dX11_feed_0 rfl (lv_at hl 0 rfl) ?_
  refine r_get C hw (hsh 0 _ rfl) fl_X11_12 (oV_r rfl (hrs (0, 0, 1) (by decide))) dX11_feed_1 ?_
  refine lv_lload_n hx hb dX11_feed_4 rfl (lv_at hl 1 rfl) ?_
  refine r_callV (As := [.long a]) (rest := []) C hw (t_X7_append l B D cA kd ig rg lg _ a hsh hrs (by omega)) sv_X11_80 (hsh 1 _ rfl) rfl hl.1 rfl (Nat.le_of_ble_eq_true rfl) ⟨Nat.le_of_ble_eq_true rfl, Nat.le_of_ble_eq_true rfl⟩ ⟨Nat.le_of_ble_eq_true rfl, Nat.le_of_ble_eq_true rfl⟩ dX11_feed_5 (fun r6 kd2 ig3 rg4 lg5 H locs hw hH hp7 => ?_)
  obtain ⟨rfl, rfl, rfl, hq1, rfl, oa1, hl1⟩ := hp7
  have hsz := hq1.trans hsz
  have oig := Off.tr (lo := 0) (hi := 49) oa1 oig (by decide) (by decide)
  have hc1 := cn_le (by8 a) 8
  refine lv_aload_n hx hb dX11_feed_8 rfl (lv_at hl 0 rfl) ?_
  refine r_get C hw (hsh 0 _ rfl) fl_X11_12 (oV_r rfl (hrs (0, 0, 1) (by decide))) dX11_feed_9 ?_
  refine lv_lload_n hx hb dX11_feed_12 rfl (lv_at hl 2 rfl) ?_
  refine r_callV (As := [.long b]) (rest := []) C hw (t_X7_append l B D cA kd ig3 rg lg _ b hsh hrs (by omega)) sv_X11_80 (hsh 1 _ rfl) rfl hl.1 rfl (Nat.le_of_ble_eq_true rfl) ⟨Nat.le_of_ble_eq_true rfl, Nat.le_of_ble_eq_true rfl⟩ ⟨Nat.le_of_ble_eq_true rfl, Nat.le_of_ble_eq_true rfl⟩ dX11_feed_13 (fun r13 kd9 ig10 rg11 lg12 H locs hw hH hp14 => ?_)
  obtain ⟨rfl, rfl, rfl, hq8, rfl, oa8, hl8⟩ := hp14
  have hsz := hq8.trans hsz
  have oig := Off.tr (lo := 0) (hi := 49) oa8 oig (by decide) (by decide)
  have hc8 := cn_le (by8 b) 8
  refine lv_aload_n hx hb dX11_feed_16 rfl (lv_at hl 0 rfl) ?_
  refine r_get C hw (hsh 0 _ rfl) fl_X11_12 (oV_r rfl (hrs (0, 0, 1) (by decide))) dX11_feed_17 ?_
  refine lv_lload hx hb dX11_feed_20 (lv_at hl 3 rfl) ?_
  refine r_callV (As := [.long c0]) (rest := []) C hw (t_X7_append l B D cA kd ig10 rg lg _ c0 hsh hrs (by omega)) sv_X11_80 (hsh 1 _ rfl) rfl hl.1 rfl (Nat.le_of_ble_eq_true rfl) ⟨Nat.le_of_ble_eq_true rfl, Nat.le_of_ble_eq_true rfl⟩ ⟨Nat.le_of_ble_eq_true rfl, Nat.le_of_ble_eq_true rfl⟩ dX11_feed_22 (fun r20 kd16 ig17 rg18 lg19 H locs hw hH hp21 => ?_)
  obtain ⟨rfl, rfl, rfl, hq15, rfl, oa15, hl15⟩ := hp21
  have hsz := hq15.trans hsz
  have oig := Off.tr (lo := 0) (hi := 49) oa15 oig (by decide) (by decide)
  have hc15 := cn_le (by8 c0) 8
  refine lv_aload_n hx hb dX11_feed_25 rfl (lv_at hl 0 rfl) ?_
  refine r_get C hw (hsh 0 _ rfl) fl_X11_12 (oV_r rfl (hrs (0, 0, 1) (by decide))) dX11_feed_26 ?_
  refine r_get C hw (hsh 1 _ rfl) fl_X11_84 (oV_i rfl) dX11_feed_29 (ti_c (ig17 (B + 1) 1).toInt rfl fun z22 hz22 => ?_)
  exact r_iret C hw hr hlk rfl (Nat.le_of_ble_eq_true rfl) (Nat.le_of_ble_eq_true rfl) dX11_feed_32 ⟨fun _ _ => rfl, (oig.mo (by decide)), Mo.rf, Mo.rf, _, rfl, by omega⟩

set_option maxHeartbeats 4000000 in
set_option maxRecDepth 100000 in
theorem t_X11_formula (l : Launch) (B : Nat) (D : va_G) (cA : Nat → ClassId) (kd : sK) (ig : sI) (rg : sR) (lg : sG) (sz : Nat) (x : Int32) (F9 : FC B kd ig rg lg) : MC l B D cA yX11_formula cX11_formula 3 (some .int) (rL 6 0 0) [.ref (B + 0), .int x] kd ig rg lg sz (TP B kd ig rg lg (fun r => ∃ z : Int32, r = some (.int z) ∧ ((0 ≤ x.toInt ∧ x.toInt < 288) → z.toInt = 1) ∧ (¬ (0 ≤ x.toInt ∧ x.toInt < 288) → z.toInt = -1))) := by
  refine MC.of (own := RX11) (by decide +kernel) rfl (Nat.le_of_ble_eq_true rfl) ?_
  intro p e s m args below meth c ls C hr hlk hnm hw hsz hl
  have hx := C.1.1
  have hb := C.1.2.1
  have hown := C.1.2.2.2.1
  have hts := C.1.2.2.2.2
  have hl : lv_has ls 3 [(0, .ref (B + 0)), (1, .int x)] := hl
  obtain ⟨Fs, hle, hv10, hv2, hv9, hv8, hfc, hfo, hfn, hch, hrd⟩ := F9
  have Fq := Fs
  obtain ⟨hsh, hrs, hce, hbf, hbi, hsi, hke⟩ := Fq
  have oig : Off B 0 49 ig ig := Off.rf
  have org : Off B 0 49 rg rg := Off.rf
  have olg : Off B 0 49 lg lg := Off.rf
  refine lv_iload_n hx hb dX11_formula_0 rfl (lv_at hl 1 rfl) ?_
  refine r_callS (As := [.int x]) (rest := []) C hw (t_X11_onSheet l B D cA kd ig rg lg _ x) ss_X11_88 rfl hl.1 rfl (Nat.le_of_ble_eq_true rfl) ⟨Nat.le_of_ble_eq_true rfl, Nat.le_of_ble_eq_true rfl⟩ ⟨Nat.le_of_ble_eq_true rfl, Nat.le_of_ble_eq_true rfl⟩ dX11_formula_1 (fun r6 kd2 ig3 rg4 lg5 H locs hw hH hp7 => ?_)
  obtain ⟨rfl, rfl, rfl, rfl, hzz1, z1, rfl, hz1⟩ := hp7
  have hsz := hzz1.trans hsz
  refine z_ne (tgt := 17) hx hb dX11_formula_4 (by decide) (fun c4 => ?_) (fun c4 => ?_)
  · refine lv_aload_n hx hb dX11_formula_17 rfl (lv_at hl 0 rfl) ?_
    refine r_get C hw (hsh 0 _ rfl) fl_X11_12 (oV_r rfl (hrs (0, 0, 1) (by decide))) dX11_formula_18 ?_
    refine lv_iload_n hx hb dX11_formula_21 rfl (lv_at hl 1 rfl) ?_
    refine r_callV (As := [.int x]) (rest := []) C hw (t_X7_read l B D cA kd ig rg lg _ x hsh hrs hle) sv_X11_92 (hsh 1 _ rfl) rfl hl.1 rfl (Nat.le_of_ble_eq_true rfl) ⟨Nat.le_of_ble_eq_true rfl, Nat.le_of_ble_eq_true rfl⟩ ⟨Nat.le_of_ble_eq_true rfl, Nat.le_of_ble_eq_true rfl⟩ dX11_formula_22 (fun r13 kd9 ig10 rg11 lg12 H locs hw hH hp14 => ?_)
    obtain ⟨rfl, rfl, rfl, hq8, rfl, oa8, hf8⟩ := hp14
    have hsz := hq8.trans hsz
    have oig := Off.tr (lo := 0) (hi := 49) oa8 oig (by decide) (by decide)
    refine lv_astore_nN (lv' := [(2, .null), (0, .ref (B + 0)), (1, .int x)]) hx hb dX11_formula_25 rfl hl (by decide) rfl (fun ls hl => ?_)
    refine lv_aload_n hx hb dX11_formula_26 rfl (lv_at hl 1 rfl) ?_
    refine r_get C hw (hsh 0 _ rfl) fl_X11_12 (oV_r rfl (hrs (0, 0, 1) (by decide))) dX11_formula_27 ?_
    refine lv_iconst (v := 0) hx hb dX11_formula_30 (by decide) (ti_c 0 (by decide) fun z15 hz15 => ?_)
    refine r_puti C hw (hsh 1 _ rfl) fl_X11_84 rfl rfl rfl dX11_formula_31 (fun H locs hH hw => ?_)
    obtain ⟨ig16, eig16⟩ : ∃ f, f = up2 ig10 (B + 1) 1 z15 := ⟨_, rfl⟩
    rw [← eig16] at hw
    have hsz := hH.trans hsz
    have oig : Off B 0 49 ig16 ig := fun a j h => by rw [eig16]; exact (up2_a (by omega)).trans (oig a j h)
    refine lv_aload_nN hx hb dX11_formula_34 rfl (lv_at hl 0 rfl) ?_
    refine lv_ifnonnullN hx hb dX11_formula_35 ?_
    refine lv_aload_n hx hb dX11_formula_38 rfl (lv_at hl 1 rfl) ?_
    refine r_get C hw (hsh 0 _ rfl) fl_X11_12 (oV_r rfl (hrs (0, 0, 1) (by decide))) dX11_formula_39 ?_
    refine r_get C hw (hsh 1 _ rfl) fl_X11_96 (oV_i rfl) dX11_formula_42 (ti_c (ig16 (B + 1) 8).toInt rfl fun z17 hz17 => ?_)
    have k18 : (ig16 (B + 1) 8).toInt = 1 := by rw [eig16, up2_j (by decide)]; exact hf8
    exact r_iret C hw hr hlk rfl (Nat.le_of_ble_eq_true rfl) (Nat.le_of_ble_eq_true rfl) dX11_formula_45 ⟨fun _ _ => rfl, (oig.mo (by decide)), Mo.rf, Mo.rf, _, rfl, by omega⟩
  · refine lv_aload_n hx hb dX11_formula_7 rfl (lv_at hl 0 rfl) ?_
    refine r_get C hw (hsh 0 _ rfl) fl_X11_12 (oV_r rfl (hrs (0, 0, 1) (by decide))) dX11_formula_8 ?_
    refine lv_iconst (v := 0) hx hb dX11_formula_11 (by decide) (ti_c 0 (by decide) fun z19 hz19 => ?_)
    refine r_puti C hw (hsh 1 _ rfl) fl_X11_84 rfl rfl rfl dX11_formula_12 (fun H locs hH hw => ?_)
    obtain ⟨ig20, eig20⟩ : ∃ f, f = up2 ig (B + 1) 1 z19 := ⟨_, rfl⟩
    rw [← eig20] at hw
    have hsz := hH.trans hsz
    have oig : Off B 0 49 ig20 ig := fun a j h => by rw [eig20]; exact (up2_a (by omega)).trans (oig a j h)
    refine lv_iconst (v := (-1)) hx hb dX11_formula_15 (by decide) (ti_c (-1) (by decide) fun z21 hz21 => ?_)
    exact r_iret C hw hr hlk rfl (Nat.le_of_ble_eq_true rfl) (Nat.le_of_ble_eq_true rfl) dX11_formula_16 ⟨fun _ _ => rfl, (oig.mo (by decide)), Mo.rf, Mo.rf, _, rfl, by omega⟩

theorem dfX0 : ∀ j, j < 6 → defaultValue (tyX0 j) = if isRf 0 j = true then .null else .int 0 := by decide +kernel

set_option maxHeartbeats 4000000 in
set_option maxRecDepth 100000 in
theorem t_X11_number (l : Launch) (B : Nat) (D : va_G) (cA : Nat → ClassId) (kd : sK) (ig : sI) (rg : sR) (lg : sG) (sz : Nat) (x y : Int32) (h80 : B + 80 ≤ sz) (F9 : FC B kd ig rg lg) : MC l B D cA yX11_number cX11_number 3 (some .boolean) (rL 6 1 6) [.ref (B + 0), .int x, .int y] kd ig rg lg sz (TP B kd ig rg lg (fun r => ∃ z : Int32, r = some (.int z) ∧ ((0 ≤ x.toInt ∧ x.toInt < 288) → z.toInt = 1) ∧ (¬ (0 ≤ x.toInt ∧ x.toInt < 288) → z.toInt = 0))) := by
  refine MC.of (own := RX11) (by decide +kernel) rfl (Nat.le_of_ble_eq_true rfl) ?_
  intro p e s m args below meth c ls C hr hlk hnm hw hsz hl
  have hx := C.1.1
  have hb := C.1.2.1
  have hown := C.1.2.2.2.1
  have hts := C.1.2.2.2.2
  have hl : lv_has ls 3 [(0, .ref (B + 0)), (1, .int x), (2, .int y)] := hl
  obtain ⟨Fs, hle, hv10, hv2, hv9, hv8, hfc, hfo, hfn, hch, hrd⟩ := F9
  have Fq := Fs
  obtain ⟨hsh, hrs, hce, hbf, hbi, hsi, hke⟩ := Fq
  refine lv_iload_n hx hb dX11_number_0 rfl (lv_at hl 1 rfl) ?_
  refine r_callS (As := [.int x]) (rest := []) C hw (t_X11_onSheet l B D cA kd ig rg lg _ x) ss_X11_88 rfl hl.1 rfl (Nat.le_of_ble_eq_true rfl) ⟨Nat.le_of_ble_eq_true rfl, Nat.le_of_ble_eq_true rfl⟩ ⟨Nat.le_of_ble_eq_true rfl, Nat.le_of_ble_eq_true rfl⟩ dX11_number_1 (fun r6 kd2 ig3 rg4 lg5 H locs hw hH hp7 => ?_)
  obtain ⟨rfl, rfl, rfl, rfl, hzz1, z1, rfl, hz1⟩ := hp7
  have hsz := hzz1.trans hsz
  refine z_ne (tgt := 9) hx hb dX11_number_4 (by decide) (fun c4 => ?_) (fun c4 => ?_)
  · refine lv_aload_n hx hb dX11_number_9 rfl (lv_at hl 0 rfl) ?_
    refine r_get C hw (hsh 0 _ rfl) fl_X11_19 (oV_r rfl (hrs (0, 1, 9) (by decide))) dX11_number_10 ?_
    refine lv_iload_n hx hb dX11_number_13 rfl (lv_at hl 1 rfl) ?_
    refine r_new (k := 0) (t0 := tyX0) C hw rfl (by decide) rfl inT0 tyX0_ok dfX0 cl_X11_99 it_0 id_0 (Nat.le_of_ble_eq_true rfl) (Nat.le_of_ble_eq_true rfl) dX11_number_14 hsz (fun H hsz hw => ?_)
    obtain ⟨kd2, ekd2⟩ : ∃ f, f = upK kd sz 0 0 := ⟨_, rfl⟩
    obtain ⟨ig2, eig2⟩ : ∃ f, f = upR ig sz 0 := ⟨_, rfl⟩
    obtain ⟨rg2, erg2⟩ : ∃ f, f = upR rg sz none := ⟨_, rfl⟩
    rw [← ekd2, ← eig2, ← erg2] at hw
    have ak : ∀ a, a < B + 80 → kd2 a = kd a := fun a h => by rw [ekd2, upK_ne (by omega)]
    have ai : ∀ a j, a < B + 80 → ig2 a j = ig a j := fun a j h => by rw [eig2, upR_ne (by omega)]
    have ar : ∀ a j, a < B + 80 → rg2 a j = rg a j := fun a j h => by rw [erg2, upR_ne (by omega)]
    have hq0 : kd2 sz = some (0, 0) := by rw [ekd2, upK_eq]
    have hsh := hsh.ag ak
    refine lv_dup hx hb dX11_number_17 rfl ?_
    refine lv_iconst (v := 1) hx hb dX11_number_18 (by decide) (ti_c 1 (by decide) fun z8 hz8 => ?_)
    refine lv_iload_n hx hb dX11_number_19 rfl (lv_at hl 2 rfl) ?_
    refine lv_null hx hb dX11_number_20 ?_
    refine r_callI (As := [.int z8, .int y, .null]) (rest := [.ref sz, .int x, .ref (B + 9)]) C hw (t_X0_init l B D cA kd2 ig2 rg2 lg _ sz z8 y hq0) sc_X11_101 rfl hl.1 rfl (Nat.le_of_ble_eq_true rfl) ⟨Nat.le_of_ble_eq_true rfl, Nat.le_of_ble_eq_true rfl⟩ ⟨Nat.le_of_ble_eq_true rfl, Nat.le_of_ble_eq_true rfl⟩ dX11_number_21 (fun r14 kd10 ig11 rg12 lg13 H locs hw hH hp15 => ?_)
    obtain ⟨rfl, rfl, hq9, rfl, ia9, ra9⟩ := hp15
    have hsz := hq9.trans hsz
    have ai := fun a j (h : a < B + 80) => (ia9 a j (by omega)).trans (ai a j h)
    have ar := fun a j (h : a < B + 80) => (ra9 a j (by omega)).trans (ar a j h)
    refine r_callV (As := [.int x, .ref sz]) (rest := []) C hw (t_X6_put l B D cA kd2 ig11 rg12 lg _ sz _ x hq0 (FS.ag Fs ak ai ar)) sv_X11_104 (hsh 9 _ rfl) rfl hl.1 rfl (Nat.le_of_ble_eq_true rfl) ⟨Nat.le_of_ble_eq_true rfl, Nat.le_of_ble_eq_true rfl⟩ ⟨Nat.le_of_ble_eq_true rfl, Nat.le_of_ble_eq_true rfl⟩ dX11_number_24 (fun r21 kd17 ig18 rg19 lg20 H locs hw hH hp22 => ?_)
    obtain ⟨rfl, rr16, rfl, hq16, rfl, oo16⟩ := hp22
    have hsz := hq16.trans hsz
    have ai := fun a j (h0 : B + 49 ≤ a) (h : a < B + 80) => (oo16 a j (by omega)).trans (ai a j h)
    have ar := fun a j (h0 : B + 49 ≤ a) (h : a < B + 80) => (rr16 a j (by omega)).trans (ar a j h)
    refine lv_iconst (v := 1) hx hb dX11_number_27 (by decide) (ti_c 1 (by decide) fun z23 hz23 => ?_)
    exact r_iret C hw hr hlk (nar_b (by omega)) (Nat.le_of_ble_eq_true rfl) (Nat.le_of_ble_eq_true rfl) dX11_number_28 ⟨ak, ai, ar, Mo.rf, _, rfl, by omega⟩
  · refine lv_iconst (v := 0) hx hb dX11_number_7 (by decide) (ti_c 0 (by decide) fun z24 hz24 => ?_)
    exact r_iret C hw hr hlk (nar_b (by omega)) (Nat.le_of_ble_eq_true rfl) (Nat.le_of_ble_eq_true rfl) dX11_number_8 ⟨fun _ _ => rfl, Mo.rf, Mo.rf, Mo.rf, _, rfl, by omega⟩

set_option maxHeartbeats 4000000 in
set_option maxRecDepth 100000 in
theorem t_X11_empty (l : Launch) (B : Nat) (D : va_G) (cA : Nat → ClassId) (kd : sK) (ig : sI) (rg : sR) (lg : sG) (sz : Nat) (x : Int32) (F9 : FC B kd ig rg lg) : MC l B D cA yX11_empty cX11_empty 2 (some .boolean) (rL 6 0 0) [.ref (B + 0), .int x] kd ig rg lg sz (TP B kd ig rg lg (fun r => ∃ z : Int32, r = some (.int z) ∧ ((0 ≤ x.toInt ∧ x.toInt < 288) → z.toInt = 1) ∧ (¬ (0 ≤ x.toInt ∧ x.toInt < 288) → z.toInt = 0))) := by
  refine MC.of (own := RX11) (by decide +kernel) rfl (Nat.le_of_ble_eq_true rfl) ?_
  intro p e s m args below meth c ls C hr hlk hnm hw hsz hl
  have hx := C.1.1
  have hb := C.1.2.1
  have hown := C.1.2.2.2.1
  have hts := C.1.2.2.2.2
  have hl : lv_has ls 2 [(0, .ref (B + 0)), (1, .int x)] := hl
  obtain ⟨Fs, hle, hv10, hv2, hv9, hv8, hfc, hfo, hfn, hch, hrd⟩ := F9
  have Fq := Fs
  obtain ⟨hsh, hrs, hce, hbf, hbi, hsi, hke⟩ := Fq
  have oig : Off B 0 49 ig ig := Off.rf
  have org : Off B 0 49 rg rg := Off.rf
  have olg : Off B 0 49 lg lg := Off.rf
  refine lv_iload_n hx hb dX11_empty_0 rfl (lv_at hl 1 rfl) ?_
  refine r_callS (As := [.int x]) (rest := []) C hw (t_X11_onSheet l B D cA kd ig rg lg _ x) ss_X11_88 rfl hl.1 rfl (Nat.le_of_ble_eq_true rfl) ⟨Nat.le_of_ble_eq_true rfl, Nat.le_of_ble_eq_true rfl⟩ ⟨Nat.le_of_ble_eq_true rfl, Nat.le_of_ble_eq_true rfl⟩ dX11_empty_1 (fun r6 kd2 ig3 rg4 lg5 H locs hw hH hp7 => ?_)
  obtain ⟨rfl, rfl, rfl, rfl, hzz1, z1, rfl, hz1⟩ := hp7
  have hsz := hzz1.trans hsz
  refine z_ne (tgt := 9) hx hb dX11_empty_4 (by decide) (fun c4 => ?_) (fun c4 => ?_)
  · refine lv_aload_n hx hb dX11_empty_9 rfl (lv_at hl 0 rfl) ?_
    refine r_get C hw (hsh 0 _ rfl) fl_X11_19 (oV_r rfl (hrs (0, 1, 9) (by decide))) dX11_empty_10 ?_
    refine lv_iload_n hx hb dX11_empty_13 rfl (lv_at hl 1 rfl) ?_
    refine lv_aload_n hx hb dX11_empty_14 rfl (lv_at hl 0 rfl) ?_
    refine r_get C hw (hsh 0 _ rfl) fl_X11_19 (oV_r rfl (hrs (0, 1, 9) (by decide))) dX11_empty_15 ?_
    refine r_get C hw (hsh 9 _ rfl) fl_X11_108 (oV_r rfl (hrs (9, 0, 10) (by decide))) dX11_empty_18 ?_
    refine r_callV (As := [.int x, .ref (B + 10)]) (rest := []) C hw (t_X6_put l B D cA kd ig rg lg _ (B + 10) _ x (hsh 10 _ rfl) Fs) sv_X11_104 (hsh 9 _ rfl) rfl hl.1 rfl (Nat.le_of_ble_eq_true rfl) ⟨Nat.le_of_ble_eq_true rfl, Nat.le_of_ble_eq_true rfl⟩ ⟨Nat.le_of_ble_eq_true rfl, Nat.le_of_ble_eq_true rfl⟩ dX11_empty_21 (fun r13 kd9 ig10 rg11 lg12 H locs hw hH hp14 => ?_)
    obtain ⟨rfl, rr8, rfl, hq8, rfl, oo8⟩ := hp14
    have hsz := hq8.trans hsz
    have oig := Off.tr (lo := 0) (hi := 49) oo8 oig (by decide) (by decide)
    have org := Off.tr (lo := 0) (hi := 49) rr8 org (by decide) (by decide)
    refine lv_iconst (v := 1) hx hb dX11_empty_24 (by decide) (ti_c 1 (by decide) fun z15 hz15 => ?_)
    exact r_iret C hw hr hlk (nar_b (by omega)) (Nat.le_of_ble_eq_true rfl) (Nat.le_of_ble_eq_true rfl) dX11_empty_25 ⟨fun _ _ => rfl, (oig.mo (by decide)), (org.mo (by decide)), Mo.rf, _, rfl, by omega⟩
  · refine lv_iconst (v := 0) hx hb dX11_empty_7 (by decide) (ti_c 0 (by decide) fun z16 hz16 => ?_)
    exact r_iret C hw hr hlk (nar_b (by omega)) (Nat.le_of_ble_eq_true rfl) (Nat.le_of_ble_eq_true rfl) dX11_empty_8 ⟨fun _ _ => rfl, Mo.rf, Mo.rf, Mo.rf, _, rfl, by omega⟩

set_option maxHeartbeats 4000000 in
set_option maxRecDepth 100000 in
theorem t_X11_copy (l : Launch) (B : Nat) (D : va_G) (cA : Nat → ClassId) (kd : sK) (ig : sI) (rg : sR) (lg : sG) (sz : Nat) (x y : Int32) (F9 : FC B kd ig rg lg) : MC l B D cA yX11_copy cX11_copy 4 (some .boolean) (rL 6 0 0) [.ref (B + 0), .int x, .int y] kd ig rg lg sz (TP B kd ig rg lg (fun r => ∃ z : Int32, r = some (.int z) ∧ (((0 ≤ x.toInt ∧ x.toInt < 288) ∧ (0 ≤ y.toInt ∧ y.toInt < 288)) → z.toInt = 1) ∧ (¬ ((0 ≤ x.toInt ∧ x.toInt < 288) ∧ (0 ≤ y.toInt ∧ y.toInt < 288)) → z.toInt = 0))) := by
  refine MC.of (own := RX11) (by decide +kernel) rfl (Nat.le_of_ble_eq_true rfl) ?_
  intro p e s m args below meth c ls C hr hlk hnm hw hsz hl
  have hx := C.1.1
  have hb := C.1.2.1
  have hown := C.1.2.2.2.1
  have hts := C.1.2.2.2.2
  have hl : lv_has ls 4 [(0, .ref (B + 0)), (1, .int x), (2, .int y)] := hl
  obtain ⟨Fs, hle, hv10, hv2, hv9, hv8, hfc, hfo, hfn, hch, hrd⟩ := F9
  have Fq := Fs
  obtain ⟨hsh, hrs, hce, hbf, hbi, hsi, hke⟩ := Fq
  have oig : Off B 0 49 ig ig := Off.rf
  have org : Off B 0 49 rg rg := Off.rf
  have olg : Off B 0 49 lg lg := Off.rf
  refine lv_iload_n hx hb dX11_copy_0 rfl (lv_at hl 1 rfl) ?_
  refine r_callS (As := [.int x]) (rest := []) C hw (t_X11_onSheet l B D cA kd ig rg lg _ x) ss_X11_88 rfl hl.1 rfl (Nat.le_of_ble_eq_true rfl) ⟨Nat.le_of_ble_eq_true rfl, Nat.le_of_ble_eq_true rfl⟩ ⟨Nat.le_of_ble_eq_true rfl, Nat.le_of_ble_eq_true rfl⟩ dX11_copy_1 (fun r6 kd2 ig3 rg4 lg5 H locs hw hH hp7 => ?_)
  obtain ⟨rfl, rfl, rfl, rfl, hzz1, z1, rfl, hz1⟩ := hp7
  have hsz := hzz1.trans hsz
  refine z_eq (tgt := 14) hx hb dX11_copy_4 (by decide) (fun c4 => ?_) (fun c4 => ?_)
  · refine lv_iconst (v := 0) hx hb dX11_copy_14 (by decide) (ti_c 0 (by decide) fun z8 hz8 => ?_)
    exact r_iret C hw hr hlk (nar_b (by omega)) (Nat.le_of_ble_eq_true rfl) (Nat.le_of_ble_eq_true rfl) dX11_copy_15 ⟨fun _ _ => rfl, Mo.rf, Mo.rf, Mo.rf, _, rfl, by omega⟩
  · refine lv_iload_n hx hb dX11_copy_7 rfl (lv_at hl 2 rfl) ?_
    refine r_callS (As := [.int y]) (rest := []) C hw (t_X11_onSheet l B D cA kd ig rg lg _ y) ss_X11_88 rfl hl.1 rfl (Nat.le_of_ble_eq_true rfl) ⟨Nat.le_of_ble_eq_true rfl, Nat.le_of_ble_eq_true rfl⟩ ⟨Nat.le_of_ble_eq_true rfl, Nat.le_of_ble_eq_true rfl⟩ dX11_copy_8 (fun r14 kd10 ig11 rg12 lg13 H locs hw hH hp15 => ?_)
    obtain ⟨rfl, rfl, rfl, rfl, hzz9, z9, rfl, hz9⟩ := hp15
    have hsz := hzz9.trans hsz
    refine z_ne (tgt := 16) hx hb dX11_copy_11 (by decide) (fun c11 => ?_) (fun c11 => ?_)
    · refine lv_aload_n hx hb dX11_copy_16 rfl (lv_at hl 0 rfl) ?_
      refine r_get C hw (hsh 0 _ rfl) fl_X11_19 (oV_r rfl (hrs (0, 1, 9) (by decide))) dX11_copy_17 ?_
      refine lv_iload_n hx hb dX11_copy_20 rfl (lv_at hl 1 rfl) ?_
      refine lv_iload_n hx hb dX11_copy_21 rfl (lv_at hl 2 rfl) ?_
      refine r_callV (As := [.int x, .int y]) (rest := []) C hw (t_X6_copyFor l B D cA kd ig rg lg _ x y Fs) sv_X11_112 (hsh 9 _ rfl) rfl hl.1 rfl (Nat.le_of_ble_eq_true rfl) ⟨Nat.le_of_ble_eq_true rfl, Nat.le_of_ble_eq_true rfl⟩ ⟨Nat.le_of_ble_eq_true rfl, Nat.le_of_ble_eq_true rfl⟩ dX11_copy_22 (fun r20 kd16 ig17 rg18 lg19 H locs hw hH hp21 => ?_)
      obtain ⟨rfl, rfl, rfl, rfl, hzhp21, rfl⟩ := hp21
      have hsz := hzhp21.trans hsz
      refine lv_astore_n (lv' := [(3, .ref (B + 10)), (0, .ref (B + 0)), (1, .int x), (2, .int y)]) hx hb dX11_copy_25 rfl hl (by decide) rfl (fun ls hl => ?_)
      refine lv_aload_n hx hb dX11_copy_26 rfl (lv_at hl 0 rfl) ?_
      refine lv_ifnonnull (tgt := 32) hx hb dX11_copy_27 (by decide) ?_
      refine lv_aload_n hx hb dX11_copy_32 rfl (lv_at hl 1 rfl) ?_
      refine r_get C hw (hsh 0 _ rfl) fl_X11_19 (oV_r rfl (hrs (0, 1, 9) (by decide))) dX11_copy_33 ?_
      refine lv_iload_n hx hb dX11_copy_36 rfl (lv_at hl 3 rfl) ?_
      refine lv_aload_n hx hb dX11_copy_37 rfl (lv_at hl 0 rfl) ?_
      refine r_callV (As := [.int y, .ref (B + 10)]) (rest := []) C hw (t_X6_put l B D cA kd ig rg lg _ (B + 10) _ y (hsh 10 _ rfl) Fs) sv_X11_104 (hsh 9 _ rfl) rfl hl.1 rfl (Nat.le_of_ble_eq_true rfl) ⟨Nat.le_of_ble_eq_true rfl, Nat.le_of_ble_eq_true rfl⟩ ⟨Nat.le_of_ble_eq_true rfl, Nat.le_of_ble_eq_true rfl⟩ dX11_copy_38 (fun r27 kd23 ig24 rg25 lg26 H locs hw hH hp28 => ?_)
      obtain ⟨rfl, rr22, rfl, hq22, rfl, oo22⟩ := hp28
      have hsz := hq22.trans hsz
      have oig := Off.tr (lo := 0) (hi := 49) oo22 oig (by decide) (by decide)
      have org := Off.tr (lo := 0) (hi := 49) rr22 org (by decide) (by decide)
      refine lv_iconst (v := 1) hx hb dX11_copy_41 (by decide) (ti_c 1 (by decide) fun z29 hz29 => ?_)
      exact r_iret C hw hr hlk (nar_b (by omega)) (Nat.le_of_ble_eq_true rfl) (Nat.le_of_ble_eq_true rfl) dX11_copy_42 ⟨fun _ _ => rfl, (oig.mo (by decide)), (org.mo (by decide)), Mo.rf, _, rfl, by omega⟩
    · refine lv_iconst (v := 0) hx hb dX11_copy_14 (by decide) (ti_c 0 (by decide) fun z30 hz30 => ?_)
      exact r_iret C hw hr hlk (nar_b (by omega)) (Nat.le_of_ble_eq_true rfl) (Nat.le_of_ble_eq_true rfl) dX11_copy_15 ⟨fun _ _ => rfl, Mo.rf, Mo.rf, Mo.rf, _, rfl, by omega⟩

set_option maxHeartbeats 4000000 in
set_option maxRecDepth 100000 in
theorem t_X11_unit (l : Launch) (B : Nat) (D : va_G) (cA : Nat → ClassId) (kd : sK) (ig : sI) (rg : sR) (lg : sG) (sz : Nat) (x y u w : Int32) (F9 : FC B kd ig rg lg) : MC l B D cA yX11_unit cX11_unit 5 (some .boolean) (rL 6 0 0) [.ref (B + 0), .int x, .int y, .int u, .int w] kd ig rg lg sz (TP B kd ig rg lg (fun r => ∃ z : Int32, r = some (.int z) ∧ z.toInt = 0)) := by
  refine MC.of (own := RX11) (by decide +kernel) rfl (Nat.le_of_ble_eq_true rfl) ?_
  intro p e s m args below meth c ls C hr hlk hnm hw hsz hl
  have hx := C.1.1
  have hb := C.1.2.1
  have hown := C.1.2.2.2.1
  have hts := C.1.2.2.2.2
  have hl : lv_has ls 5 [(0, .ref (B + 0)), (1, .int x), (2, .int y), (3, .int u), (4, .int w)] := hl
  obtain ⟨Fs, hle, hv10, hv2, hv9, hv8, hfc, hfo, hfn, hch, hrd⟩ := F9
  have Fq := Fs
  obtain ⟨hsh, hrs, hce, hbf, hbi, hsi, hke⟩ := Fq
  have oig : Off B 0 49 ig ig := Off.rf
  have org : Off B 0 49 rg rg := Off.rf
  have olg : Off B 0 49 lg lg := Off.rf
  refine lv_aload_n hx hb dX11_unit_0 rfl (lv_at hl 0 rfl) ?_
  refine r_get C hw (hsh 0 _ rfl) fl_X11_19 (oV_r rfl (hrs (0, 1, 9) (by decide))) dX11_unit_1 ?_
  refine lv_iload_n hx hb dX11_unit_4 rfl (lv_at hl 1 rfl) ?_
  refine r_callV (As := [.int x]) (rest := []) C hw (t_X6_kindAt l B D cA kd ig rg lg _ x Fs) sv_X11_116 (hsh 9 _ rfl) rfl hl.1 rfl (Nat.le_of_ble_eq_true rfl) ⟨Nat.le_of_ble_eq_true rfl, Nat.le_of_ble_eq_true rfl⟩ ⟨Nat.le_of_ble_eq_true rfl, Nat.le_of_ble_eq_true rfl⟩ dX11_unit_5 (fun r6 kd2 ig3 rg4 lg5 H locs hw hH hp7 => ?_)
  obtain ⟨rfl, rfl, rfl, rfl, hzz1, z1, rfl, hz1⟩ := hp7
  have hsz := hzz1.trans hsz
  refine lv_iconst (v := 1) hx hb dX11_unit_8 (by decide) (ti_c 1 (by decide) fun z8 hz8 => ?_)
  refine b_eq (tgt := 14) hx hb dX11_unit_9 (by decide) (fun c9 => ?_) (fun c9 => ?_)
  · exact absurd c9 (by omega)
  · refine lv_iconst (v := 0) hx hb dX11_unit_12 (by decide) (ti_c 0 (by decide) fun z9 hz9 => ?_)
    exact r_iret C hw hr hlk (nar_b (by omega)) (Nat.le_of_ble_eq_true rfl) (Nat.le_of_ble_eq_true rfl) dX11_unit_13 ⟨fun _ _ => rfl, Mo.rf, Mo.rf, Mo.rf, _, rfl, by omega⟩

set_option maxHeartbeats 4000000 in
set_option maxRecDepth 100000 in
theorem t_X11_keep (l : Launch) (B : Nat) (D : va_G) (cA : Nat → ClassId) (kd : sK) (ig : sI) (rg : sR) (lg : sG) (sz : Nat) (x y : Int32) (hy : y.toInt = 0 ∨ y.toInt = 1) (F9 : FC B kd ig rg lg) : MC l B D cA yX11_keep cX11_keep 3 (some .boolean) (rL 6 0 0) [.ref (B + 0), .int x, .int y] kd ig rg lg sz (TP B kd ig rg lg (fun r => ∃ z : Int32, r = some (.int z) ∧ ((0 ≤ x.toInt ∧ x.toInt < 288) → z.toInt = 1) ∧ (¬ (0 ≤ x.toInt ∧ x.toInt < 288) → z.toInt = 0))) := by
  refine MC.of (own := RX11) (by decide +kernel) rfl (Nat.le_of_ble_eq_true rfl) ?_
  intro p e s m args below meth c ls C hr hlk hnm hw hsz hl
  have hx := C.1.1
  have hb := C.1.2.1
  have hown := C.1.2.2.2.1
  have hts := C.1.2.2.2.2
  have hl : lv_has ls 3 [(0, .ref (B + 0)), (1, .int x), (2, .int y)] := hl
  obtain ⟨Fs, hle, hv10, hv2, hv9, hv8, hfc, hfo, hfn, hch, hrd⟩ := F9
  have Fq := Fs
  obtain ⟨hsh, hrs, hce, hbf, hbi, hsi, hke⟩ := Fq
  have oig : Off B 0 49 ig ig := Off.rf
  have org : Off B 0 49 rg rg := Off.rf
  have olg : Off B 0 49 lg lg := Off.rf
  refine lv_aload_n hx hb dX11_keep_0 rfl (lv_at hl 0 rfl) ?_
  refine r_get C hw (hsh 0 _ rfl) fl_X11_19 (oV_r rfl (hrs (0, 1, 9) (by decide))) dX11_keep_1 ?_
  refine lv_iload_n hx hb dX11_keep_4 rfl (lv_at hl 1 rfl) ?_
  refine lv_iload_n hx hb dX11_keep_5 rfl (lv_at hl 2 rfl) ?_
  refine r_callV (As := [.int x, .int y]) (rest := []) C hw (t_X6_setKept l B D cA kd ig rg lg _ x y hy hsh hrs) sv_X11_136 (hsh 9 _ rfl) rfl hl.1 rfl (Nat.le_of_ble_eq_true rfl) ⟨Nat.le_of_ble_eq_true rfl, Nat.le_of_ble_eq_true rfl⟩ ⟨Nat.le_of_ble_eq_true rfl, Nat.le_of_ble_eq_true rfl⟩ dX11_keep_6 (fun r6 kd2 ig3 rg4 lg5 H locs hw hH hp7 => ?_)
  obtain ⟨rfl, rfl, rfl, hq1, ⟨zr1, rfl, hzr1⟩, oa1⟩ := hp7
  have hsz := hq1.trans hsz
  have oig := Off.tr (lo := 0) (hi := 49) oa1 oig (by decide) (by decide)
  exact r_iret C hw hr hlk (nar_b (by omega)) (Nat.le_of_ble_eq_true rfl) (Nat.le_of_ble_eq_true rfl) dX11_keep_9 ⟨fun _ _ => rfl, (oig.mo (by decide)), Mo.rf, Mo.rf, _, rfl, by omega⟩

set_option maxHeartbeats 4000000 in
set_option maxRecDepth 100000 in
theorem t_X11_check (l : Launch) (B : Nat) (D : va_G) (cA : Nat → ClassId) (kd : sK) (ig : sI) (rg : sR) (lg : sG) (sz : Nat) (F9 : FC B kd ig rg lg) : MC l B D cA yX11_check cX11_check 1 (some .int) (rL 6 0 0) [.ref (B + 0)] kd ig rg lg sz (TP B kd ig rg lg (fun r => ∃ z : Int32, r = some (.int z) ∧ z.toInt = 0)) := by
  refine MC.of (own := RX11) (by decide +kernel) rfl (Nat.le_of_ble_eq_true rfl) ?_
  intro p e s m args below meth c ls C hr hlk hnm hw hsz hl
  have hx := C.1.1
  have hb := C.1.2.1
  have hown := C.1.2.2.2.1
  have hts := C.1.2.2.2.2
  have hl : lv_has ls 1 [(0, .ref (B + 0))] := hl
  obtain ⟨Fs, hle, hv10, hv2, hv9, hv8, hfc, hfo, hfn, hch, hrd⟩ := F9
  have Fq := Fs
  obtain ⟨hsh, hrs, hce, hbf, hbi, hsi, hke⟩ := Fq
  have oig : Off B 15 49 ig ig := Off.rf
  have olg : Off B 15 49 lg lg := Off.rf
  refine lv_aload_n hx hb dX11_check_0 rfl (lv_at hl 0 rfl) ?_
  refine r_get C hw (hsh 0 _ rfl) fl_X11_44 (oV_r rfl (hrs (0, 4, 29) (by decide))) dX11_check_1 ?_
  refine r_callV (As := []) (rest := []) C hw (t_X2_settle l B D cA kd ig rg lg _ Fs (hv2)) sv_X11_140 (hsh 29 _ rfl) rfl hl.1 rfl (Nat.le_of_ble_eq_true rfl) ⟨Nat.le_of_ble_eq_true rfl, Nat.le_of_ble_eq_true rfl⟩ ⟨Nat.le_of_ble_eq_true rfl, Nat.le_of_ble_eq_true rfl⟩ dX11_check_4 (fun r6 kd2 ig3 rg4 lg5 H locs hw hH hp7 => ?_)
  obtain ⟨rfl, rfl, rfl, hq1, rfl, oa1, hfam, hfs3⟩ := hp7
  have hsz := hq1.trans hsz
  have oig := Off.tr (lo := 15) (hi := 49) oa1 oig (by decide) (by decide)
  have wA := oa1
  refine lv_aload_n hx hb dX11_check_7 rfl (lv_at hl 0 rfl) ?_
  refine r_get C hw (hsh 0 _ rfl) fl_X11_51 (oV_r rfl (hrs (0, 5, 32) (by decide))) dX11_check_8 ?_
  refine r_callV (As := []) (rest := []) C hw (t_X9_settle l B D cA kd ig3 rg lg _ (FS.off Fs oig (by decide)) ((wA (B + 32) 8 (by omega)).trans hv9) ((wA (B + 15) 2 (by omega)).trans hfc) ((wA (B + 15) 9 (by omega)).trans hfo)) sv_X11_143 (hsh 32 _ rfl) rfl hl.1 rfl (Nat.le_of_ble_eq_true rfl) ⟨Nat.le_of_ble_eq_true rfl, Nat.le_of_ble_eq_true rfl⟩ ⟨Nat.le_of_ble_eq_true rfl, Nat.le_of_ble_eq_true rfl⟩ dX11_check_11 (fun r13 kd9 ig10 rg11 lg12 H locs hw hH hp14 => ?_)
  obtain ⟨rfl, rfl, la8, hq8, rfl, oa8, hfc, hfo, hexp⟩ := hp14
  have hsz := hq8.trans hsz
  have oig := Off.tr (lo := 15) (hi := 49) oa8 oig (by decide) (by decide)
  have olg := Off.tr (lo := 15) (hi := 49) la8 olg (by decide) (by decide)
  have wB := oa8
  refine lv_aload_n hx hb dX11_check_14 rfl (lv_at hl 0 rfl) ?_
  refine r_get C hw (hsh 0 _ rfl) fl_X11_58 (oV_r rfl (hrs (0, 6, 37) (by decide))) dX11_check_15 ?_
  refine r_callV (As := []) (rest := []) C hw (t_X8_settle l B D cA kd ig10 rg lg12 _ (FS.off Fs oig (by decide)) ((wB (B + 37) 7 (by omega)).trans ((wA (B + 37) 7 (by omega)).trans hv8)) hfc hfo) sv_X11_144 (hsh 37 _ rfl) rfl hl.1 rfl (Nat.le_of_ble_eq_true rfl) ⟨Nat.le_of_ble_eq_true rfl, Nat.le_of_ble_eq_true rfl⟩ ⟨Nat.le_of_ble_eq_true rfl, Nat.le_of_ble_eq_true rfl⟩ dX11_check_18 (fun r20 kd16 ig17 rg18 lg19 H locs hw hH hp21 => ?_)
  obtain ⟨rfl, rfl, la15, hq15, rfl, oa15, hfc, hfo, htot⟩ := hp21
  have hsz := hq15.trans hsz
  have oig := Off.tr (lo := 15) (hi := 49) oa15 oig (by decide) (by decide)
  have olg := Off.tr (lo := 15) (hi := 49) la15 olg (by decide) (by decide)
  have wB := oa15
  refine lv_aload_n hx hb dX11_check_21 rfl (lv_at hl 0 rfl) ?_
  refine r_get C hw (hsh 0 _ rfl) fl_X11_67 (oV_r rfl (hrs (0, 7, 43) (by decide))) dX11_check_22 ?_
  refine r_callV (As := []) (rest := []) C hw (t_X3_gather l B D cA kd ig17 rg lg19 _ (FS.off Fs oig (by decide)) hfo) sv_X11_145 (hsh 43 _ rfl) rfl hl.1 rfl (Nat.le_of_ble_eq_true rfl) ⟨Nat.le_of_ble_eq_true rfl, Nat.le_of_ble_eq_true rfl⟩ ⟨Nat.le_of_ble_eq_true rfl, Nat.le_of_ble_eq_true rfl⟩ dX11_check_25 (fun r27 kd23 ig24 rg25 lg26 H locs hw hH hp28 => ?_)
  obtain ⟨rfl, rfl, rfl, hq22, ⟨zr22, rfl, hzr22⟩, oa22⟩ := hp28
  have hsz := hq22.trans hsz
  have oig := Off.tr (lo := 15) (hi := 49) oa22 oig (by decide) (by decide)
  exact r_iret C hw hr hlk rfl (Nat.le_of_ble_eq_true rfl) (Nat.le_of_ble_eq_true rfl) dX11_check_28 ⟨fun _ _ => rfl, (oig.mo (by decide)), Mo.rf, (olg.mo (by decide)), _, rfl, by omega⟩

set_option maxHeartbeats 4000000 in
set_option maxRecDepth 100000 in
theorem t_X11_finding (l : Launch) (B : Nat) (D : va_G) (cA : Nat → ClassId) (kd : sK) (ig : sI) (rg : sR) (lg : sG) (sz : Nat) (x y : Int32) (F9 : FC B kd ig rg lg) : MC l B D cA yX11_finding cX11_finding 3 (some .int) (rL 6 0 0) [.ref (B + 0), .int x, .int y] kd ig rg lg sz (TP B kd ig rg lg (fun r => ∃ z : Int32, r = some (.int z) ∧ z.toInt = -1)) := by
  refine MC.of (own := RX11) (by decide +kernel) rfl (Nat.le_of_ble_eq_true rfl) ?_
  intro p e s m args below meth c ls C hr hlk hnm hw hsz hl
  have hx := C.1.1
  have hb := C.1.2.1
  have hown := C.1.2.2.2.1
  have hts := C.1.2.2.2.2
  have hl : lv_has ls 3 [(0, .ref (B + 0)), (1, .int x), (2, .int y)] := hl
  obtain ⟨Fs, hle, hv10, hv2, hv9, hv8, hfc, hfo, hfn, hch, hrd⟩ := F9
  have Fq := Fs
  obtain ⟨hsh, hrs, hce, hbf, hbi, hsi, hke⟩ := Fq
  refine lv_aload_n hx hb dX11_finding_0 rfl (lv_at hl 0 rfl) ?_
  refine r_get C hw (hsh 0 _ rfl) fl_X11_67 (oV_r rfl (hrs (0, 7, 43) (by decide))) dX11_finding_1 ?_
  refine lv_iload_n hx hb dX11_finding_4 rfl (lv_at hl 1 rfl) ?_
  refine lv_iload_n hx hb dX11_finding_5 rfl (lv_at hl 2 rfl) ?_
  refine r_callV (As := [.int x, .int y]) (rest := []) C hw (t_X3_tell l B D cA kd ig rg lg _ x y hsh hfn) sv_X11_149 (hsh 43 _ rfl) rfl hl.1 rfl (Nat.le_of_ble_eq_true rfl) ⟨Nat.le_of_ble_eq_true rfl, Nat.le_of_ble_eq_true rfl⟩ ⟨Nat.le_of_ble_eq_true rfl, Nat.le_of_ble_eq_true rfl⟩ dX11_finding_6 (fun r6 kd2 ig3 rg4 lg5 H locs hw hH hp7 => ?_)
  obtain ⟨rfl, rfl, rfl, rfl, hzz1, z1, rfl, hz1⟩ := hp7
  have hsz := hzz1.trans hsz
  exact r_iret C hw hr hlk rfl (Nat.le_of_ble_eq_true rfl) (Nat.le_of_ble_eq_true rfl) dX11_finding_9 ⟨fun _ _ => rfl, Mo.rf, Mo.rf, Mo.rf, _, rfl, by omega⟩

set_option maxHeartbeats 4000000 in
set_option maxRecDepth 100000 in
theorem t_X11_changed (l : Launch) (B : Nat) (D : va_G) (cA : Nat → ClassId) (kd : sK) (ig : sI) (rg : sR) (lg : sG) (sz : Nat) (x y : Int32) (F9 : FC B kd ig rg lg) : MC l B D cA yX11_changed cX11_changed 3 (some .int) (rL 6 0 0) [.ref (B + 0), .int x, .int y] kd ig rg lg sz (TP B kd ig rg lg (fun r => ∃ z : Int32, r = some (.int z) ∧ z.toInt = -1)) := by
  refine MC.of (own := RX11) (by decide +kernel) rfl (Nat.le_of_ble_eq_true rfl) ?_
  intro p e s m args below meth c ls C hr hlk hnm hw hsz hl
  have hx := C.1.1
  have hb := C.1.2.1
  have hown := C.1.2.2.2.1
  have hts := C.1.2.2.2.2
  have hl : lv_has ls 3 [(0, .ref (B + 0)), (1, .int x), (2, .int y)] := hl
  obtain ⟨Fs, hle, hv10, hv2, hv9, hv8, hfc, hfo, hfn, hch, hrd⟩ := F9
  have Fq := Fs
  obtain ⟨hsh, hrs, hce, hbf, hbi, hsi, hke⟩ := Fq
  refine lv_aload_n hx hb dX11_changed_0 rfl (lv_at hl 0 rfl) ?_
  refine r_get C hw (hsh 0 _ rfl) fl_X11_76 (oV_r rfl (hrs (0, 8, 45) (by decide))) dX11_changed_1 ?_
  refine lv_iload_n hx hb dX11_changed_4 rfl (lv_at hl 1 rfl) ?_
  refine lv_iload_n hx hb dX11_changed_5 rfl (lv_at hl 2 rfl) ?_
  refine r_callV (As := [.int x, .int y]) (rest := []) C hw (t_X1_tell l B D cA kd ig rg lg _ x y hsh hch) sv_X11_170 (hsh 45 _ rfl) rfl hl.1 rfl (Nat.le_of_ble_eq_true rfl) ⟨Nat.le_of_ble_eq_true rfl, Nat.le_of_ble_eq_true rfl⟩ ⟨Nat.le_of_ble_eq_true rfl, Nat.le_of_ble_eq_true rfl⟩ dX11_changed_6 (fun r6 kd2 ig3 rg4 lg5 H locs hw hH hp7 => ?_)
  obtain ⟨rfl, rfl, rfl, rfl, hzz1, z1, rfl, hz1⟩ := hp7
  have hsz := hzz1.trans hsz
  exact r_iret C hw hr hlk rfl (Nat.le_of_ble_eq_true rfl) (Nat.le_of_ble_eq_true rfl) dX11_changed_9 ⟨fun _ _ => rfl, Mo.rf, Mo.rf, Mo.rf, _, rfl, by omega⟩

set_option maxHeartbeats 4000000 in
set_option maxRecDepth 100000 in
theorem t_X11_mend (l : Launch) (B : Nat) (D : va_G) (cA : Nat → ClassId) (kd : sK) (ig : sI) (rg : sR) (lg : sG) (sz : Nat) (x : Int32) (F9 : FC B kd ig rg lg) : MC l B D cA yX11_mend cX11_mend 4 (some .int) (rL 6 0 0) [.ref (B + 0), .int x] kd ig rg lg sz (TP B kd ig rg lg (fun r => ∃ z : Int32, r = some (.int z) ∧ z.toInt = -1)) := by
  refine MC.of (own := RX11) (by decide +kernel) rfl (Nat.le_of_ble_eq_true rfl) ?_
  intro p e s m args below meth c ls C hr hlk hnm hw hsz hl
  have hx := C.1.1
  have hb := C.1.2.1
  have hown := C.1.2.2.2.1
  have hts := C.1.2.2.2.2
  have hl : lv_has ls 4 [(0, .ref (B + 0)), (1, .int x)] := hl
  obtain ⟨Fs, hle, hv10, hv2, hv9, hv8, hfc, hfo, hfn, hch, hrd⟩ := F9
  have Fq := Fs
  obtain ⟨hsh, hrs, hce, hbf, hbi, hsi, hke⟩ := Fq
  have oig : Off B 15 49 ig ig := Off.rf
  have olg : Off B 15 49 lg lg := Off.rf
  refine lv_aload_n hx hb dX11_mend_0 rfl (lv_at hl 0 rfl) ?_
  refine r_get C hw (hsh 0 _ rfl) fl_X11_76 (oV_r rfl (hrs (0, 8, 45) (by decide))) dX11_mend_1 ?_
  refine r_callV (As := []) (rest := []) C hw (t_X1_forget l B D cA kd ig rg lg _ hsh) sv_X11_153 (hsh 45 _ rfl) rfl hl.1 rfl (Nat.le_of_ble_eq_true rfl) ⟨Nat.le_of_ble_eq_true rfl, Nat.le_of_ble_eq_true rfl⟩ ⟨Nat.le_of_ble_eq_true rfl, Nat.le_of_ble_eq_true rfl⟩ dX11_mend_4 (fun r6 kd2 ig3 rg4 lg5 H locs hw hH hp7 => ?_)
  obtain ⟨rfl, rfl, rfl, hq1, rfl, oa1⟩ := hp7
  have hsz := hq1.trans hsz
  have oig := Off.tr (lo := 15) (hi := 49) oa1 oig (by decide) (by decide)
  have w2 := fun (h : ig (B + 29) 4 = -1) => (oa1 (B + 29) 4 (by omega)).trans h
  refine lv_aload_n hx hb dX11_mend_7 rfl (lv_at hl 0 rfl) ?_
  refine r_get C hw (hsh 0 _ rfl) fl_X11_44 (oV_r rfl (hrs (0, 4, 29) (by decide))) dX11_mend_8 ?_
  refine r_callV (As := []) (rest := []) C hw (t_X2_settle l B D cA kd ig3 rg lg _ (FS.off Fs oig (by decide)) ((w2 hv2))) sv_X11_140 (hsh 29 _ rfl) rfl hl.1 rfl (Nat.le_of_ble_eq_true rfl) ⟨Nat.le_of_ble_eq_true rfl, Nat.le_of_ble_eq_true rfl⟩ ⟨Nat.le_of_ble_eq_true rfl, Nat.le_of_ble_eq_true rfl⟩ dX11_mend_11 (fun r13 kd9 ig10 rg11 lg12 H locs hw hH hp14 => ?_)
  obtain ⟨rfl, rfl, rfl, hq8, rfl, oa8, hfam, hfs3⟩ := hp14
  have hsz := hq8.trans hsz
  have oig := Off.tr (lo := 15) (hi := 49) oa8 oig (by decide) (by decide)
  have wA := oa8
  refine lv_aload_n hx hb dX11_mend_14 rfl (lv_at hl 0 rfl) ?_
  refine r_get C hw (hsh 0 _ rfl) fl_X11_44 (oV_r rfl (hrs (0, 4, 29) (by decide))) dX11_mend_15 ?_
  refine lv_iload_n hx hb dX11_mend_18 rfl (lv_at hl 1 rfl) ?_
  refine r_callV (As := [.int x]) (rest := []) C hw (t_X2_neighbourToCopy l B D cA kd ig10 rg lg _ x (FS.off Fs oig (by decide))) sv_X11_156 (hsh 29 _ rfl) rfl hl.1 rfl (Nat.le_of_ble_eq_true rfl) ⟨Nat.le_of_ble_eq_true rfl, Nat.le_of_ble_eq_true rfl⟩ ⟨Nat.le_of_ble_eq_true rfl, Nat.le_of_ble_eq_true rfl⟩ dX11_mend_19 (fun r20 kd16 ig17 rg18 lg19 H locs hw hH hp21 => ?_)
  obtain ⟨rfl, rfl, rfl, rfl, hzz15, z15, rfl, hz15⟩ := hp21
  have hsz := hzz15.trans hsz
  refine lv_istore_n (lv' := [(2, .int z15), (0, .ref (B + 0)), (1, .int x)]) hx hb dX11_mend_22 rfl hl (by decide) rfl (fun ls hl => ?_)
  refine lv_iload_n hx hb dX11_mend_23 rfl (lv_at hl 0 rfl) ?_
  refine lv_iconst (v := (-1)) hx hb dX11_mend_24 (by decide) (ti_c (-1) (by decide) fun z22 hz22 => ?_)
  refine b_ne (tgt := 30) hx hb dX11_mend_25 (by decide) (fun c25 => ?_) (fun c25 => ?_)
  · exact absurd c25 (by omega)
  · refine lv_iconst (v := (-1)) hx hb dX11_mend_28 (by decide) (ti_c (-1) (by decide) fun z23 hz23 => ?_)
    exact r_iret C hw hr hlk rfl (Nat.le_of_ble_eq_true rfl) (Nat.le_of_ble_eq_true rfl) dX11_mend_29 ⟨fun _ _ => rfl, (oig.mo (by decide)), Mo.rf, Mo.rf, _, rfl, by omega⟩

set_option maxHeartbeats 4000000 in
set_option maxRecDepth 100000 in
theorem t_X11_stretchedFormula (l : Launch) (B : Nat) (D : va_G) (cA : Nat → ClassId) (kd : sK) (ig : sI) (rg : sR) (lg : sG) (sz : Nat) (x y : Int32) (F : FS B kd ig rg) : MC l B D cA yX11_stretchedFormula cX11_stretchedFormula 5 (some (.object "SheetDoctor$Formula")) (rL 4 0 0) [.ref (B + 0), .int x, .int y] kd ig rg lg sz (Pu kd ig rg lg sz (fun r => r = some .null)) := by
  refine MC.of (own := RX11) (by decide +kernel) rfl (Nat.le_of_ble_eq_true rfl) ?_
  intro p e s m args below meth c ls C hr hlk hnm hw hsz hl
  have hx := C.1.1
  have hb := C.1.2.1
  have hown := C.1.2.2.2.1
  have hts := C.1.2.2.2.2
  have hl : lv_has ls 5 [(0, .ref (B + 0)), (1, .int x), (2, .int y)] := hl
  have Fs := F
  obtain ⟨hsh, hrs, hce, hbf, hbi, hsi, hke⟩ := F
  refine lv_aload_n hx hb dX11_stretchedFormula_0 rfl (lv_at hl 0 rfl) ?_
  refine r_get C hw (hsh 0 _ rfl) fl_X11_19 (oV_r rfl (hrs (0, 1, 9) (by decide))) dX11_stretchedFormula_1 ?_
  refine lv_iload_n hx hb dX11_stretchedFormula_4 rfl (lv_at hl 1 rfl) ?_
  refine r_callV (As := [.int x]) (rest := []) C hw (t_X6_formulaAt l B D cA kd ig rg lg _ x Fs) sv_X11_221 (hsh 9 _ rfl) rfl hl.1 rfl (Nat.le_of_ble_eq_true rfl) ⟨Nat.le_of_ble_eq_true rfl, Nat.le_of_ble_eq_true rfl⟩ ⟨Nat.le_of_ble_eq_true rfl, Nat.le_of_ble_eq_true rfl⟩ dX11_stretchedFormula_5 (fun r5 kd1 ig2 rg3 lg4 H locs hw hH hp6 => ?_)
  obtain ⟨rfl, rfl, rfl, rfl, hzhp6, rfl⟩ := hp6
  have hsz := hzhp6.trans hsz
  refine lv_astore_nN (lv' := [(3, .null), (0, .ref (B + 0)), (1, .int x), (2, .int y)]) hx hb dX11_stretchedFormula_8 rfl hl (by decide) rfl (fun ls hl => ?_)
  refine lv_aload_nN hx hb dX11_stretchedFormula_9 rfl (lv_at hl 0 rfl) ?_
  refine lv_ifnonnullN hx hb dX11_stretchedFormula_10 ?_
  refine lv_null hx hb dX11_stretchedFormula_13 ?_
  exact r_aret C hw hr hlk (Or.inl rfl) (Nat.le_of_ble_eq_true rfl) (Nat.le_of_ble_eq_true rfl) dX11_stretchedFormula_14 ⟨rfl, rfl, rfl, rfl, hsz, rfl⟩

set_option maxHeartbeats 4000000 in
set_option maxRecDepth 100000 in
theorem t_X11_stretch (l : Launch) (B : Nat) (D : va_G) (cA : Nat → ClassId) (kd : sK) (ig : sI) (rg : sR) (lg : sG) (sz : Nat) (x y : Int32) (F9 : FC B kd ig rg lg) : MC l B D cA yX11_stretch cX11_stretch 4 (some .int) (rL 6 0 0) [.ref (B + 0), .int x, .int y] kd ig rg lg sz (TP B kd ig rg lg (fun r => ∃ z : Int32, r = some (.int z) ∧ z.toInt = -1)) := by
  refine MC.of (own := RX11) (by decide +kernel) rfl (Nat.le_of_ble_eq_true rfl) ?_
  intro p e s m args below meth c ls C hr hlk hnm hw hsz hl
  have hx := C.1.1
  have hb := C.1.2.1
  have hown := C.1.2.2.2.1
  have hts := C.1.2.2.2.2
  have hl : lv_has ls 4 [(0, .ref (B + 0)), (1, .int x), (2, .int y)] := hl
  obtain ⟨Fs, hle, hv10, hv2, hv9, hv8, hfc, hfo, hfn, hch, hrd⟩ := F9
  have Fq := Fs
  obtain ⟨hsh, hrs, hce, hbf, hbi, hsi, hke⟩ := Fq
  have oig : Off B 15 49 ig ig := Off.rf
  have olg : Off B 15 49 lg lg := Off.rf
  refine lv_aload_n hx hb dX11_stretch_0 rfl (lv_at hl 0 rfl) ?_
  refine r_get C hw (hsh 0 _ rfl) fl_X11_76 (oV_r rfl (hrs (0, 8, 45) (by decide))) dX11_stretch_1 ?_
  refine r_callV (As := []) (rest := []) C hw (t_X1_forget l B D cA kd ig rg lg _ hsh) sv_X11_153 (hsh 45 _ rfl) rfl hl.1 rfl (Nat.le_of_ble_eq_true rfl) ⟨Nat.le_of_ble_eq_true rfl, Nat.le_of_ble_eq_true rfl⟩ ⟨Nat.le_of_ble_eq_true rfl, Nat.le_of_ble_eq_true rfl⟩ dX11_stretch_4 (fun r6 kd2 ig3 rg4 lg5 H locs hw hH hp7 => ?_)
  obtain ⟨rfl, rfl, rfl, hq1, rfl, oa1⟩ := hp7
  have hsz := hq1.trans hsz
  have oig := Off.tr (lo := 15) (hi := 49) oa1 oig (by decide) (by decide)
  have w2 := fun (h : ig (B + 29) 4 = -1) => (oa1 (B + 29) 4 (by omega)).trans h
  refine lv_aload_n hx hb dX11_stretch_7 rfl (lv_at hl 0 rfl) ?_
  refine lv_iload_n hx hb dX11_stretch_8 rfl (lv_at hl 1 rfl) ?_
  refine lv_iload_n hx hb dX11_stretch_9 rfl (lv_at hl 2 rfl) ?_
  refine r_callV (As := [.int x, .int y]) (rest := []) C hw (t_X11_stretchedFormula l B D cA kd ig3 rg lg _ x y (FS.off Fs oig (by decide))) sv_X11_166 (hsh 0 _ rfl) rfl hl.1 rfl (Nat.le_of_ble_eq_true rfl) ⟨Nat.le_of_ble_eq_true rfl, Nat.le_of_ble_eq_true rfl⟩ ⟨Nat.le_of_ble_eq_true rfl, Nat.le_of_ble_eq_true rfl⟩ dX11_stretch_10 (fun r12 kd8 ig9 rg10 lg11 H locs hw hH hp13 => ?_)
  obtain ⟨rfl, rfl, rfl, rfl, hzhp13, rfl⟩ := hp13
  have hsz := hzhp13.trans hsz
  refine lv_astore_nN (lv' := [(3, .null), (0, .ref (B + 0)), (1, .int x), (2, .int y)]) hx hb dX11_stretch_13 rfl hl (by decide) rfl (fun ls hl => ?_)
  refine lv_aload_nN hx hb dX11_stretch_14 rfl (lv_at hl 0 rfl) ?_
  refine lv_ifnonnullN hx hb dX11_stretch_15 ?_
  refine lv_iconst (v := (-1)) hx hb dX11_stretch_18 (by decide) (ti_c (-1) (by decide) fun z14 hz14 => ?_)
  exact r_iret C hw hr hlk rfl (Nat.le_of_ble_eq_true rfl) (Nat.le_of_ble_eq_true rfl) dX11_stretch_19 ⟨fun _ _ => rfl, (oig.mo (by decide)), Mo.rf, Mo.rf, _, rfl, by omega⟩

set_option maxHeartbeats 4000000 in
set_option maxRecDepth 100000 in
theorem t_X11_undo (l : Launch) (B : Nat) (D : va_G) (cA : Nat → ClassId) (kd : sK) (ig : sI) (rg : sR) (lg : sG) (sz : Nat) (F9 : FC B kd ig rg lg) : MC l B D cA yX11_undo cX11_undo 1 (some .int) (rL 6 0 0) [.ref (B + 0)] kd ig rg lg sz (TP B kd ig rg lg (fun r => ∃ z : Int32, r = some (.int z) ∧ z.toInt = -1)) := by
  refine MC.of (own := RX11) (by decide +kernel) rfl (Nat.le_of_ble_eq_true rfl) ?_
  intro p e s m args below meth c ls C hr hlk hnm hw hsz hl
  have hx := C.1.1
  have hb := C.1.2.1
  have hown := C.1.2.2.2.1
  have hts := C.1.2.2.2.2
  have hl : lv_has ls 1 [(0, .ref (B + 0))] := hl
  obtain ⟨Fs, hle, hv10, hv2, hv9, hv8, hfc, hfo, hfn, hch, hrd⟩ := F9
  have Fq := Fs
  obtain ⟨hsh, hrs, hce, hbf, hbi, hsi, hke⟩ := Fq
  have oig : Off B 15 49 ig ig := Off.rf
  have olg : Off B 15 49 lg lg := Off.rf
  refine lv_aload_n hx hb dX11_undo_0 rfl (lv_at hl 0 rfl) ?_
  refine r_get C hw (hsh 0 _ rfl) fl_X11_76 (oV_r rfl (hrs (0, 8, 45) (by decide))) dX11_undo_1 ?_
  refine r_callV (As := []) (rest := []) C hw (t_X1_forget l B D cA kd ig rg lg _ hsh) sv_X11_153 (hsh 45 _ rfl) rfl hl.1 rfl (Nat.le_of_ble_eq_true rfl) ⟨Nat.le_of_ble_eq_true rfl, Nat.le_of_ble_eq_true rfl⟩ ⟨Nat.le_of_ble_eq_true rfl, Nat.le_of_ble_eq_true rfl⟩ dX11_undo_4 (fun r6 kd2 ig3 rg4 lg5 H locs hw hH hp7 => ?_)
  obtain ⟨rfl, rfl, rfl, hq1, rfl, oa1⟩ := hp7
  have hsz := hq1.trans hsz
  have oig := Off.tr (lo := 15) (hi := 49) oa1 oig (by decide) (by decide)
  have w2 := fun (h : ig (B + 29) 4 = -1) => (oa1 (B + 29) 4 (by omega)).trans h
  refine lv_aload_n hx hb dX11_undo_7 rfl (lv_at hl 0 rfl) ?_
  refine r_get C hw (hsh 0 _ rfl) fl_X11_19 (oV_r rfl (hrs (0, 1, 9) (by decide))) dX11_undo_8 ?_
  refine r_get C hw (hsh 9 _ rfl) fl_X11_171 (oV_i rfl) dX11_undo_11 (ti_c (ig3 (B + 9) 5).toInt rfl fun z8 hz8 => ?_)
  have k9 : (ig3 (B + 9) (5)).toInt = 0 := z0 ((FS.off Fs oig (by decide)).si (5))
  refine z_ne (tgt := 19) hx hb dX11_undo_14 (by decide) (fun c14 => ?_) (fun c14 => ?_)
  · exact absurd c14 (by omega)
  · refine lv_iconst (v := (-1)) hx hb dX11_undo_17 (by decide) (ti_c (-1) (by decide) fun z10 hz10 => ?_)
    exact r_iret C hw hr hlk rfl (Nat.le_of_ble_eq_true rfl) (Nat.le_of_ble_eq_true rfl) dX11_undo_18 ⟨fun _ _ => rfl, (oig.mo (by decide)), Mo.rf, Mo.rf, _, rfl, by omega⟩

set_option maxHeartbeats 4000000 in
set_option maxRecDepth 100000 in
theorem t_X11_ways (l : Launch) (B : Nat) (D : va_G) (cA : Nat → ClassId) (kd : sK) (ig : sI) (rg : sR) (lg : sG) (sz : Nat) (x y : Int32) (F9 : FC B kd ig rg lg) : MC l B D cA yX11_ways cX11_ways 3 (some .int) (rL 6 0 0) [.ref (B + 0), .int x, .int y] kd ig rg lg sz (TP B kd ig rg lg (fun r => ∃ z : Int32, r = some (.int z) ∧ z.toInt = -1)) := by
  refine MC.of (own := RX11) (by decide +kernel) rfl (Nat.le_of_ble_eq_true rfl) ?_
  intro p e s m args below meth c ls C hr hlk hnm hw hsz hl
  have hx := C.1.1
  have hb := C.1.2.1
  have hown := C.1.2.2.2.1
  have hts := C.1.2.2.2.2
  have hl : lv_has ls 3 [(0, .ref (B + 0)), (1, .int x), (2, .int y)] := hl
  obtain ⟨Fs, hle, hv10, hv2, hv9, hv8, hfc, hfo, hfn, hch, hrd⟩ := F9
  have Fq := Fs
  obtain ⟨hsh, hrs, hce, hbf, hbi, hsi, hke⟩ := Fq
  have oig : Off B 15 49 ig ig := Off.rf
  have olg : Off B 15 49 lg lg := Off.rf
  refine lv_iload_n hx hb dX11_ways_0 rfl (lv_at hl 1 rfl) ?_
  refine r_callS (As := [.int x]) (rest := []) C hw (t_X11_onSheet l B D cA kd ig rg lg _ x) ss_X11_88 rfl hl.1 rfl (Nat.le_of_ble_eq_true rfl) ⟨Nat.le_of_ble_eq_true rfl, Nat.le_of_ble_eq_true rfl⟩ ⟨Nat.le_of_ble_eq_true rfl, Nat.le_of_ble_eq_true rfl⟩ dX11_ways_1 (fun r6 kd2 ig3 rg4 lg5 H locs hw hH hp7 => ?_)
  obtain ⟨rfl, rfl, rfl, rfl, hzz1, z1, rfl, hz1⟩ := hp7
  have hsz := hzz1.trans hsz
  refine z_eq (tgt := 14) hx hb dX11_ways_4 (by decide) (fun c4 => ?_) (fun c4 => ?_)
  · refine lv_iconst (v := (-1)) hx hb dX11_ways_14 (by decide) (ti_c (-1) (by decide) fun z8 hz8 => ?_)
    exact r_iret C hw hr hlk rfl (Nat.le_of_ble_eq_true rfl) (Nat.le_of_ble_eq_true rfl) dX11_ways_15 ⟨fun _ _ => rfl, Mo.rf, Mo.rf, Mo.rf, _, rfl, by omega⟩
  · refine lv_iload_n hx hb dX11_ways_7 rfl (lv_at hl 2 rfl) ?_
    refine r_callS (As := [.int y]) (rest := []) C hw (t_X11_onSheet l B D cA kd ig rg lg _ y) ss_X11_88 rfl hl.1 rfl (Nat.le_of_ble_eq_true rfl) ⟨Nat.le_of_ble_eq_true rfl, Nat.le_of_ble_eq_true rfl⟩ ⟨Nat.le_of_ble_eq_true rfl, Nat.le_of_ble_eq_true rfl⟩ dX11_ways_8 (fun r14 kd10 ig11 rg12 lg13 H locs hw hH hp15 => ?_)
    obtain ⟨rfl, rfl, rfl, rfl, hzz9, z9, rfl, hz9⟩ := hp15
    have hsz := hzz9.trans hsz
    refine z_ne (tgt := 16) hx hb dX11_ways_11 (by decide) (fun c11 => ?_) (fun c11 => ?_)
    · refine lv_aload_n hx hb dX11_ways_16 rfl (lv_at hl 0 rfl) ?_
      refine r_get C hw (hsh 0 _ rfl) fl_X11_58 (oV_r rfl (hrs (0, 6, 37) (by decide))) dX11_ways_17 ?_
      refine r_callV (As := []) (rest := []) C hw (t_X8_settle l B D cA kd ig rg lg _ Fs hv8 hfc hfo) sv_X11_144 (hsh 37 _ rfl) rfl hl.1 rfl (Nat.le_of_ble_eq_true rfl) ⟨Nat.le_of_ble_eq_true rfl, Nat.le_of_ble_eq_true rfl⟩ ⟨Nat.le_of_ble_eq_true rfl, Nat.le_of_ble_eq_true rfl⟩ dX11_ways_20 (fun r21 kd17 ig18 rg19 lg20 H locs hw hH hp22 => ?_)
      obtain ⟨rfl, rfl, la16, hq16, rfl, oa16, hfc, hfo, htot⟩ := hp22
      have hsz := hq16.trans hsz
      have oig := Off.tr (lo := 15) (hi := 49) oa16 oig (by decide) (by decide)
      have olg := Off.tr (lo := 15) (hi := 49) la16 olg (by decide) (by decide)
      have wB := oa16
      refine lv_aload_n hx hb dX11_ways_23 rfl (lv_at hl 0 rfl) ?_
      refine r_get C hw (hsh 0 _ rfl) fl_X11_58 (oV_r rfl (hrs (0, 6, 37) (by decide))) dX11_ways_24 ?_
      refine lv_iload_n hx hb dX11_ways_27 rfl (lv_at hl 2 rfl) ?_
      refine r_callV (As := [.int y]) (rest := []) C hw (t_X8_isTotal l B D cA kd ig18 rg lg20 _ y hsh hrs htot) sv_X11_196 (hsh 37 _ rfl) rfl hl.1 rfl (Nat.le_of_ble_eq_true rfl) ⟨Nat.le_of_ble_eq_true rfl, Nat.le_of_ble_eq_true rfl⟩ ⟨Nat.le_of_ble_eq_true rfl, Nat.le_of_ble_eq_true rfl⟩ dX11_ways_28 (fun r28 kd24 ig25 rg26 lg27 H locs hw hH hp29 => ?_)
      obtain ⟨rfl, rfl, rfl, rfl, hzz23, z23, rfl, hz23⟩ := hp29
      have hsz := hzz23.trans hsz
      refine z_eq (tgt := 46) hx hb dX11_ways_31 (by decide) (fun c31 => ?_) (fun c31 => ?_)
      · refine lv_iconst (v := (-1)) hx hb dX11_ways_46 (by decide) (ti_c (-1) (by decide) fun z30 hz30 => ?_)
        exact r_iret C hw hr hlk rfl (Nat.le_of_ble_eq_true rfl) (Nat.le_of_ble_eq_true rfl) dX11_ways_47 ⟨fun _ _ => rfl, (oig.mo (by decide)), Mo.rf, (olg.mo (by decide)), _, rfl, by omega⟩
      · exact absurd c31 (by omega)
    · refine lv_iconst (v := (-1)) hx hb dX11_ways_14 (by decide) (ti_c (-1) (by decide) fun z31 hz31 => ?_)
      exact r_iret C hw hr hlk rfl (Nat.le_of_ble_eq_true rfl) (Nat.le_of_ble_eq_true rfl) dX11_ways_15 ⟨fun _ _ => rfl, Mo.rf, Mo.rf, Mo.rf, _, rfl, by omega⟩

set_option maxHeartbeats 4000000 in
set_option maxRecDepth 100000 in
theorem t_X11_count (l : Launch) (B : Nat) (D : va_G) (cA : Nat → ClassId) (kd : sK) (ig : sI) (rg : sR) (lg : sG) (sz : Nat) (x : Int32) (F9 : FC B kd ig rg lg) : MC l B D cA yX11_count cX11_count 2 (some .int) (rL 6 0 0) [.ref (B + 0), .int x] kd ig rg lg sz (TP B kd ig rg lg (fun r => ∃ z : Int32, r = some (.int z) ∧ (0 ≤ x.toInt ∧ x.toInt ≤ 5 → z.toInt = 0) ∧ (¬ (0 ≤ x.toInt ∧ x.toInt ≤ 5) → z.toInt = -1))) := by
  refine MC.of (own := RX11) (by decide +kernel) rfl (Nat.le_of_ble_eq_true rfl) ?_
  intro p e s m args below meth c ls C hr hlk hnm hw hsz hl
  have hx := C.1.1
  have hb := C.1.2.1
  have hown := C.1.2.2.2.1
  have hts := C.1.2.2.2.2
  have hl : lv_has ls 2 [(0, .ref (B + 0)), (1, .int x)] := hl
  obtain ⟨Fs, hle, hv10, hv2, hv9, hv8, hfc, hfo, hfn, hch, hrd⟩ := F9
  have Fq := Fs
  obtain ⟨hsh, hrs, hce, hbf, hbi, hsi, hke⟩ := Fq
  have oig : Off B 15 49 ig ig := Off.rf
  have olg : Off B 15 49 lg lg := Off.rf
  refine lv_iload_n hx hb dX11_count_0 rfl (lv_at hl 1 rfl) ?_
  by_cases s1_0 : x.toInt = 0
  · refine lv_tableIn hx hb dX11_count_1 (by omega) (by omega) (off := 39) (by rw [s1_0]; rfl) (tgt := 40) (by decide) ?_
    refine lv_aload_n hx hb dX11_count_40 rfl (lv_at hl 0 rfl) ?_
    refine r_get C hw (hsh 0 _ rfl) fl_X11_19 (oV_r rfl (hrs (0, 1, 9) (by decide))) dX11_count_41 ?_
    refine lv_iconst (v := 1) hx hb dX11_count_44 (by decide) (ti_c 1 (by decide) fun z1 hz1 => ?_)
    refine r_callV (As := [.int z1]) (rest := []) C hw (t_X6_cellsOfKind l B D cA kd ig rg lg _ z1 (by omega) Fs) sv_X11_212 (hsh 9 _ rfl) rfl hl.1 rfl (Nat.le_of_ble_eq_true rfl) ⟨Nat.le_of_ble_eq_true rfl, Nat.le_of_ble_eq_true rfl⟩ ⟨Nat.le_of_ble_eq_true rfl, Nat.le_of_ble_eq_true rfl⟩ dX11_count_45 (fun r7 kd3 ig4 rg5 lg6 H locs hw hH hp8 => ?_)
    obtain ⟨rfl, rfl, rfl, rfl, hzz2, z2, rfl, hz2⟩ := hp8
    have hsz := hzz2.trans hsz
    exact r_iret C hw hr hlk rfl (Nat.le_of_ble_eq_true rfl) (Nat.le_of_ble_eq_true rfl) dX11_count_48 ⟨fun _ _ => rfl, Mo.rf, Mo.rf, Mo.rf, _, rfl, by omega⟩
  by_cases s1_1 : x.toInt = 1
  · refine lv_tableIn hx hb dX11_count_1 (by omega) (by omega) (off := 48) (by rw [s1_1]; rfl) (tgt := 49) (by decide) ?_
    refine lv_aload_n hx hb dX11_count_49 rfl (lv_at hl 0 rfl) ?_
    refine r_get C hw (hsh 0 _ rfl) fl_X11_19 (oV_r rfl (hrs (0, 1, 9) (by decide))) dX11_count_50 ?_
    refine lv_iconst (v := 2) hx hb dX11_count_53 (by decide) (ti_c 2 (by decide) fun z9 hz9 => ?_)
    refine r_callV (As := [.int z9]) (rest := []) C hw (t_X6_cellsOfKind l B D cA kd ig rg lg _ z9 (by omega) Fs) sv_X11_212 (hsh 9 _ rfl) rfl hl.1 rfl (Nat.le_of_ble_eq_true rfl) ⟨Nat.le_of_ble_eq_true rfl, Nat.le_of_ble_eq_true rfl⟩ ⟨Nat.le_of_ble_eq_true rfl, Nat.le_of_ble_eq_true rfl⟩ dX11_count_54 (fun r15 kd11 ig12 rg13 lg14 H locs hw hH hp16 => ?_)
    obtain ⟨rfl, rfl, rfl, rfl, hzz10, z10, rfl, hz10⟩ := hp16
    have hsz := hzz10.trans hsz
    exact r_iret C hw hr hlk rfl (Nat.le_of_ble_eq_true rfl) (Nat.le_of_ble_eq_true rfl) dX11_count_57 ⟨fun _ _ => rfl, Mo.rf, Mo.rf, Mo.rf, _, rfl, by omega⟩
  by_cases s1_2 : x.toInt = 2
  · refine lv_tableIn hx hb dX11_count_1 (by omega) (by omega) (off := 57) (by rw [s1_2]; rfl) (tgt := 58) (by decide) ?_
    refine lv_aload_n hx hb dX11_count_58 rfl (lv_at hl 0 rfl) ?_
    refine r_get C hw (hsh 0 _ rfl) fl_X11_44 (oV_r rfl (hrs (0, 4, 29) (by decide))) dX11_count_59 ?_
    refine r_callV (As := []) (rest := []) C hw (t_X2_settle l B D cA kd ig rg lg _ Fs (hv2)) sv_X11_140 (hsh 29 _ rfl) rfl hl.1 rfl (Nat.le_of_ble_eq_true rfl) ⟨Nat.le_of_ble_eq_true rfl, Nat.le_of_ble_eq_true rfl⟩ ⟨Nat.le_of_ble_eq_true rfl, Nat.le_of_ble_eq_true rfl⟩ dX11_count_62 (fun r22 kd18 ig19 rg20 lg21 H locs hw hH hp23 => ?_)
    obtain ⟨rfl, rfl, rfl, hq17, rfl, oa17, hfam, hfs3⟩ := hp23
    have hsz := hq17.trans hsz
    have oig := Off.tr (lo := 15) (hi := 49) oa17 oig (by decide) (by decide)
    have wA := oa17
    refine lv_aload_n hx hb dX11_count_65 rfl (lv_at hl 0 rfl) ?_
    refine r_get C hw (hsh 0 _ rfl) fl_X11_44 (oV_r rfl (hrs (0, 4, 29) (by decide))) dX11_count_66 ?_
    refine r_get C hw (hsh 29 _ rfl) fl_X11_215 (oV_i rfl) dX11_count_69 (ti_c (ig19 (B + 29) 3).toInt rfl fun z24 hz24 => ?_)
    have k25 := z0 hfs3
    exact r_iret C hw hr hlk rfl (Nat.le_of_ble_eq_true rfl) (Nat.le_of_ble_eq_true rfl) dX11_count_72 ⟨fun _ _ => rfl, (oig.mo (by decide)), Mo.rf, Mo.rf, _, rfl, by omega⟩
  by_cases s1_3 : x.toInt = 3
  · refine lv_tableIn hx hb dX11_count_1 (by omega) (by omega) (off := 72) (by rw [s1_3]; rfl) (tgt := 73) (by decide) ?_
    refine lv_aload_n hx hb dX11_count_73 rfl (lv_at hl 0 rfl) ?_
    refine r_get C hw (hsh 0 _ rfl) fl_X11_37 (oV_r rfl (hrs (0, 3, 24) (by decide))) dX11_count_74 ?_
    refine r_callV (As := []) (rest := []) C hw (t_X10_settle l B D cA kd ig rg lg _ Fs hv10 hfc hfo) sv_X11_159 (hsh 24 _ rfl) rfl hl.1 rfl (Nat.le_of_ble_eq_true rfl) ⟨Nat.le_of_ble_eq_true rfl, Nat.le_of_ble_eq_true rfl⟩ ⟨Nat.le_of_ble_eq_true rfl, Nat.le_of_ble_eq_true rfl⟩ dX11_count_77 (fun r31 kd27 ig28 rg29 lg30 H locs hw hH hp32 => ?_)
    obtain ⟨rfl, rfl, la26, hq26, rfl, oa26, hval, herr⟩ := hp32
    have hsz := hq26.trans hsz
    have oig := Off.tr (lo := 15) (hi := 49) oa26 oig (by decide) (by decide)
    have olg := Off.tr (lo := 15) (hi := 49) la26 olg (by decide) (by decide)
    have wB := oa26
    refine lv_aload_n hx hb dX11_count_80 rfl (lv_at hl 0 rfl) ?_
    refine r_get C hw (hsh 0 _ rfl) fl_X11_37 (oV_r rfl (hrs (0, 3, 24) (by decide))) dX11_count_81 ?_
    refine r_callV (As := []) (rest := []) C hw (t_X10_errors l B D cA kd ig28 rg lg30 _ hsh hrs herr) sv_X11_218 (hsh 24 _ rfl) rfl hl.1 rfl (Nat.le_of_ble_eq_true rfl) ⟨Nat.le_of_ble_eq_true rfl, Nat.le_of_ble_eq_true rfl⟩ ⟨Nat.le_of_ble_eq_true rfl, Nat.le_of_ble_eq_true rfl⟩ dX11_count_84 (fun r38 kd34 ig35 rg36 lg37 H locs hw hH hp39 => ?_)
    obtain ⟨rfl, rfl, rfl, rfl, hzz33, z33, rfl, hz33⟩ := hp39
    have hsz := hzz33.trans hsz
    exact r_iret C hw hr hlk rfl (Nat.le_of_ble_eq_true rfl) (Nat.le_of_ble_eq_true rfl) dX11_count_87 ⟨fun _ _ => rfl, (oig.mo (by decide)), Mo.rf, (olg.mo (by decide)), _, rfl, by omega⟩
  by_cases s1_4 : x.toInt = 4
  · refine lv_tableIn hx hb dX11_count_1 (by omega) (by omega) (off := 87) (by rw [s1_4]; rfl) (tgt := 88) (by decide) ?_
    refine lv_aload_n hx hb dX11_count_88 rfl (lv_at hl 0 rfl) ?_
    refine r_get C hw (hsh 0 _ rfl) fl_X11_12 (oV_r rfl (hrs (0, 0, 1) (by decide))) dX11_count_89 ?_
    refine r_get C hw (hsh 1 _ rfl) fl_X11_84 (oV_i rfl) dX11_count_92 (ti_c (ig (B + 1) 1).toInt rfl fun z40 hz40 => ?_)
    have k41 := z0 hle
    exact r_iret C hw hr hlk rfl (Nat.le_of_ble_eq_true rfl) (Nat.le_of_ble_eq_true rfl) dX11_count_95 ⟨fun _ _ => rfl, Mo.rf, Mo.rf, Mo.rf, _, rfl, by omega⟩
  by_cases s1_5 : x.toInt = 5
  · refine lv_tableIn hx hb dX11_count_1 (by omega) (by omega) (off := 95) (by rw [s1_5]; rfl) (tgt := 96) (by decide) ?_
    refine lv_aload_n hx hb dX11_count_96 rfl (lv_at hl 0 rfl) ?_
    refine r_get C hw (hsh 0 _ rfl) fl_X11_19 (oV_r rfl (hrs (0, 1, 9) (by decide))) dX11_count_97 ?_
    refine r_get C hw (hsh 9 _ rfl) fl_X11_171 (oV_i rfl) dX11_count_100 (ti_c (ig (B + 9) 5).toInt rfl fun z42 hz42 => ?_)
    have k43 : (ig (B + 9) (5)).toInt = 0 := z0 (Fs.si (5))
    exact r_iret C hw hr hlk rfl (Nat.le_of_ble_eq_true rfl) (Nat.le_of_ble_eq_true rfl) dX11_count_103 ⟨fun _ _ => rfl, Mo.rf, Mo.rf, Mo.rf, _, rfl, by omega⟩
  refine lv_tableOut hx hb dX11_count_1 (by omega) (tgt := 104) (by decide) ?_
  refine lv_iconst (v := (-1)) hx hb dX11_count_104 (by decide) (ti_c (-1) (by decide) fun z44 hz44 => ?_)
  exact r_iret C hw hr hlk rfl (Nat.le_of_ble_eq_true rfl) (Nat.le_of_ble_eq_true rfl) dX11_count_105 ⟨fun _ _ => rfl, Mo.rf, Mo.rf, Mo.rf, _, rfl, by omega⟩
end
