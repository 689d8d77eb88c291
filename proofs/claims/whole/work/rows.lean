section
-- ===== PART A: goes FIRST, ahead of the names: the tables' words, and 'selects' of the private methods out of them =====
/-- a private method of a class that the tables say can be made, by its rows of tables_1 -/
def lw_okq (q : MethodName × Nat) : Prop := (q.1.cls ≠ "java/lang/invoke/MethodHandle" ∧ q.1.cls ≠ "java/lang/invoke/VarHandle") ∧ Cond.instantiable q.1.cls q.2 ∈ tables_1 ∧ Cond.privateMethod q.1 ∈ tables_1 ∧ Cond.instanceMethod q.1 ∈ tables_1
theorem lw_p0 : lw_okq (⟨"PitchSquare", "refuse", "(I)I"⟩, 15) := ⟨⟨by decide +kernel, by decide +kernel⟩, List.mem_of_getElem? (i := 19) (by decide +kernel), List.mem_of_getElem? (i := 347) (by decide +kernel), List.mem_of_getElem? (i := 348) (by decide +kernel)⟩
theorem lw_p1 : lw_okq (⟨"PitchSquare", "answer", "(I)I"⟩, 15) := ⟨⟨by decide +kernel, by decide +kernel⟩, List.mem_of_getElem? (i := 19) (by decide +kernel), List.mem_of_getElem? (i := 351) (by decide +kernel), List.mem_of_getElem? (i := 352) (by decide +kernel)⟩
theorem lw_p2 : lw_okq (⟨"PitchSquare", "hasStrip", "(I)Z"⟩, 15) := ⟨⟨by decide +kernel, by decide +kernel⟩, List.mem_of_getElem? (i := 19) (by decide +kernel), List.mem_of_getElem? (i := 359) (by decide +kernel), List.mem_of_getElem? (i := 360) (by decide +kernel)⟩
theorem lw_p3 : lw_okq (⟨"PitchSquare", "deny", "(I)Z"⟩, 15) := ⟨⟨by decide +kernel, by decide +kernel⟩, List.mem_of_getElem? (i := 19) (by decide +kernel), List.mem_of_getElem? (i := 363) (by decide +kernel), List.mem_of_getElem? (i := 364) (by decide +kernel)⟩
theorem lw_p4 : lw_okq (⟨"PitchSquare", "done", "()Z"⟩, 15) := ⟨⟨by decide +kernel, by decide +kernel⟩, List.mem_of_getElem? (i := 19) (by decide +kernel), List.mem_of_getElem? (i := 378) (by decide +kernel), List.mem_of_getElem? (i := 379) (by decide +kernel)⟩
theorem lw_p5 : lw_okq (⟨"PitchSquare$Turf", "soak", "(IZ)V"⟩, 8) := ⟨⟨by decide +kernel, by decide +kernel⟩, List.mem_of_getElem? (i := 28) (by decide +kernel), List.mem_of_getElem? (i := 449) (by decide +kernel), List.mem_of_getElem? (i := 450) (by decide +kernel)⟩
theorem lw_p6 : lw_okq (⟨"PitchSquare$Turf", "seep", "()V"⟩, 8) := ⟨⟨by decide +kernel, by decide +kernel⟩, List.mem_of_getElem? (i := 28) (by decide +kernel), List.mem_of_getElem? (i := 460) (by decide +kernel), List.mem_of_getElem? (i := 461) (by decide +kernel)⟩
theorem lw_p7 : lw_okq (⟨"PitchSquare$Turf", "dry", "(I)V"⟩, 8) := ⟨⟨by decide +kernel, by decide +kernel⟩, List.mem_of_getElem? (i := 28) (by decide +kernel), List.mem_of_getElem? (i := 464) (by decide +kernel), List.mem_of_getElem? (i := 465) (by decide +kernel)⟩
theorem lw_p8 : lw_okq (⟨"PitchSquare$Turf", "harden", "(Z)V"⟩, 8) := ⟨⟨by decide +kernel, by decide +kernel⟩, List.mem_of_getElem? (i := 28) (by decide +kernel), List.mem_of_getElem? (i := 468) (by decide +kernel), List.mem_of_getElem? (i := 469) (by decide +kernel)⟩
theorem lw_p9 : lw_okq (⟨"PitchSquare$Turf", "grow", "()V"⟩, 8) := ⟨⟨by decide +kernel, by decide +kernel⟩, List.mem_of_getElem? (i := 28) (by decide +kernel), List.mem_of_getElem? (i := 473) (by decide +kernel), List.mem_of_getElem? (i := 474) (by decide +kernel)⟩
theorem lw_p10 : lw_okq (⟨"PitchSquare$Measures", "nearest", "(III)I"⟩, 4) := ⟨⟨by decide +kernel, by decide +kernel⟩, List.mem_of_getElem? (i := 73) (by decide +kernel), List.mem_of_getElem? (i := 503) (by decide +kernel), List.mem_of_getElem? (i := 504) (by decide +kernel)⟩
theorem lw_p11 : lw_okq (⟨"PitchSquare$Measures", "manyOf", "(II)J"⟩, 4) := ⟨⟨by decide +kernel, by decide +kernel⟩, List.mem_of_getElem? (i := 73) (by decide +kernel), List.mem_of_getElem? (i := 507) (by decide +kernel), List.mem_of_getElem? (i := 508) (by decide +kernel)⟩
theorem lw_p12 : lw_okq (⟨"PitchSquare$Measures", "sumOf", "(II)J"⟩, 4) := ⟨⟨by decide +kernel, by decide +kernel⟩, List.mem_of_getElem? (i := 73) (by decide +kernel), List.mem_of_getElem? (i := 511) (by decide +kernel), List.mem_of_getElem? (i := 512) (by decide +kernel)⟩
theorem lw_p13 : lw_okq (⟨"PitchSquare$Planner", "tryFrom", "(IIII)V"⟩, 8) := ⟨⟨by decide +kernel, by decide +kernel⟩, List.mem_of_getElem? (i := 92) (by decide +kernel), List.mem_of_getElem? (i := 546) (by decide +kernel), List.mem_of_getElem? (i := 547) (by decide +kernel)⟩
theorem lw_p14 : lw_okq (⟨"PitchSquare$Planner", "weigh", "(I)V"⟩, 8) := ⟨⟨by decide +kernel, by decide +kernel⟩, List.mem_of_getElem? (i := 92) (by decide +kernel), List.mem_of_getElem? (i := 550) (by decide +kernel), List.mem_of_getElem? (i := 551) (by decide +kernel)⟩
theorem lw_p15 : lw_okq (⟨"PitchSquare$RuleReader", "nextToken", "()Z"⟩, 13) := ⟨⟨by decide +kernel, by decide +kernel⟩, List.mem_of_getElem? (i := 138) (by decide +kernel), List.mem_of_getElem? (i := 592) (by decide +kernel), List.mem_of_getElem? (i := 593) (by decide +kernel)⟩
def lw_privs_1 : List (MethodName × Nat) := [(⟨"PitchSquare", "refuse", "(I)I"⟩, 15), (⟨"PitchSquare", "answer", "(I)I"⟩, 15), (⟨"PitchSquare", "hasStrip", "(I)Z"⟩, 15), (⟨"PitchSquare", "deny", "(I)Z"⟩, 15), (⟨"PitchSquare", "done", "()Z"⟩, 15), (⟨"PitchSquare$Turf", "soak", "(IZ)V"⟩, 8), (⟨"PitchSquare$Turf", "seep", "()V"⟩, 8), (⟨"PitchSquare$Turf", "dry", "(I)V"⟩, 8), (⟨"PitchSquare$Turf", "harden", "(Z)V"⟩, 8), (⟨"PitchSquare$Turf", "grow", "()V"⟩, 8), (⟨"PitchSquare$Measures", "nearest", "(III)I"⟩, 4), (⟨"PitchSquare$Measures", "manyOf", "(II)J"⟩, 4), (⟨"PitchSquare$Measures", "sumOf", "(II)J"⟩, 4), (⟨"PitchSquare$Planner", "tryFrom", "(IIII)V"⟩, 8), (⟨"PitchSquare$Planner", "weigh", "(I)V"⟩, 8), (⟨"PitchSquare$RuleReader", "nextToken", "()Z"⟩, 13)]
theorem lw_r1 : ∀ q ∈ lw_privs_1, lw_okq q := List.forall_mem_cons.mpr ⟨lw_p0, List.forall_mem_cons.mpr ⟨lw_p1, List.forall_mem_cons.mpr ⟨lw_p2, List.forall_mem_cons.mpr ⟨lw_p3, List.forall_mem_cons.mpr ⟨lw_p4, List.forall_mem_cons.mpr ⟨lw_p5, List.forall_mem_cons.mpr ⟨lw_p6, List.forall_mem_cons.mpr ⟨lw_p7, List.forall_mem_cons.mpr ⟨lw_p8, List.forall_mem_cons.mpr ⟨lw_p9, List.forall_mem_cons.mpr ⟨lw_p10, List.forall_mem_cons.mpr ⟨lw_p11, List.forall_mem_cons.mpr ⟨lw_p12, List.forall_mem_cons.mpr ⟨lw_p13, List.forall_mem_cons.mpr ⟨lw_p14, List.forall_mem_cons.mpr ⟨lw_p15, fun _ h => absurd h List.not_mem_nil⟩⟩⟩⟩⟩⟩⟩⟩⟩⟩⟩⟩⟩⟩⟩⟩
theorem lw_p16 : lw_okq (⟨"PitchSquare$RuleReader", "byteHere", "()I"⟩, 13) := ⟨⟨by decide +kernel, by decide +kernel⟩, List.mem_of_getElem? (i := 138) (by decide +kernel), List.mem_of_getElem? (i := 596) (by decide +kernel), List.mem_of_getElem? (i := 597) (by decide +kernel)⟩
theorem lw_p17 : lw_okq (⟨"PitchSquare$RuleReader", "tokenLength", "()I"⟩, 13) := ⟨⟨by decide +kernel, by decide +kernel⟩, List.mem_of_getElem? (i := 138) (by decide +kernel), List.mem_of_getElem? (i := 614) (by decide +kernel), List.mem_of_getElem? (i := 615) (by decide +kernel)⟩
theorem lw_p18 : lw_okq (⟨"PitchSquare$RuleReader", "takeToken", "()V"⟩, 13) := ⟨⟨by decide +kernel, by decide +kernel⟩, List.mem_of_getElem? (i := 138) (by decide +kernel), List.mem_of_getElem? (i := 621) (by decide +kernel), List.mem_of_getElem? (i := 622) (by decide +kernel)⟩
theorem lw_p19 : lw_okq (⟨"PitchSquare$RuleReader", "blameToken", "(I)V"⟩, 13) := ⟨⟨by decide +kernel, by decide +kernel⟩, List.mem_of_getElem? (i := 138) (by decide +kernel), List.mem_of_getElem? (i := 625) (by decide +kernel), List.mem_of_getElem? (i := 626) (by decide +kernel)⟩
theorem lw_p20 : lw_okq (⟨"PitchSquare$RuleReader", "blame", "(II)V"⟩, 13) := ⟨⟨by decide +kernel, by decide +kernel⟩, List.mem_of_getElem? (i := 138) (by decide +kernel), List.mem_of_getElem? (i := 629) (by decide +kernel), List.mem_of_getElem? (i := 630) (by decide +kernel)⟩
theorem lw_p21 : lw_okq (⟨"PitchSquare$RuleReader", "takeName", "()V"⟩, 13) := ⟨⟨by decide +kernel, by decide +kernel⟩, List.mem_of_getElem? (i := 138) (by decide +kernel), List.mem_of_getElem? (i := 633) (by decide +kernel), List.mem_of_getElem? (i := 634) (by decide +kernel)⟩
theorem lw_p22 : lw_okq (⟨"PitchSquare$RuleReader", "isNameKnown", "()Z"⟩, 13) := ⟨⟨by decide +kernel, by decide +kernel⟩, List.mem_of_getElem? (i := 138) (by decide +kernel), List.mem_of_getElem? (i := 641) (by decide +kernel), List.mem_of_getElem? (i := 642) (by decide +kernel)⟩
theorem lw_p23 : lw_okq (⟨"PitchSquare$RuleReader", "isSameText", "(I)Z"⟩, 13) := ⟨⟨by decide +kernel, by decide +kernel⟩, List.mem_of_getElem? (i := 138) (by decide +kernel), List.mem_of_getElem? (i := 649) (by decide +kernel), List.mem_of_getElem? (i := 650) (by decide +kernel)⟩
theorem lw_p24 : lw_okq (⟨"PitchSquare$RuleReader", "keepName", "()V"⟩, 13) := ⟨⟨by decide +kernel, by decide +kernel⟩, List.mem_of_getElem? (i := 138) (by decide +kernel), List.mem_of_getElem? (i := 653) (by decide +kernel), List.mem_of_getElem? (i := 654) (by decide +kernel)⟩
theorem lw_p25 : lw_okq (⟨"PitchSquare$RuleReader", "takeWhen", "()V"⟩, 13) := ⟨⟨by decide +kernel, by decide +kernel⟩, List.mem_of_getElem? (i := 138) (by decide +kernel), List.mem_of_getElem? (i := 662) (by decide +kernel), List.mem_of_getElem? (i := 663) (by decide +kernel)⟩
theorem lw_p26 : lw_okq (⟨"PitchSquare$RuleReader", "tokenIs", "(Ljava/lang/String;)Z"⟩, 13) := ⟨⟨by decide +kernel, by decide +kernel⟩, List.mem_of_getElem? (i := 138) (by decide +kernel), List.mem_of_getElem? (i := 667) (by decide +kernel), List.mem_of_getElem? (i := 668) (by decide +kernel)⟩
theorem lw_p27 : lw_okq (⟨"PitchSquare$RuleReader", "takeWhat", "()V"⟩, 13) := ⟨⟨by decide +kernel, by decide +kernel⟩, List.mem_of_getElem? (i := 138) (by decide +kernel), List.mem_of_getElem? (i := 719) (by decide +kernel), List.mem_of_getElem? (i := 720) (by decide +kernel)⟩
theorem lw_p28 : lw_okq (⟨"PitchSquare$RuleReader", "tokenWhat", "()I"⟩, 13) := ⟨⟨by decide +kernel, by decide +kernel⟩, List.mem_of_getElem? (i := 138) (by decide +kernel), List.mem_of_getElem? (i := 723) (by decide +kernel), List.mem_of_getElem? (i := 724) (by decide +kernel)⟩
theorem lw_p29 : lw_okq (⟨"PitchSquare$RuleReader", "takeCompares", "()V"⟩, 13) := ⟨⟨by decide +kernel, by decide +kernel⟩, List.mem_of_getElem? (i := 138) (by decide +kernel), List.mem_of_getElem? (i := 742) (by decide +kernel), List.mem_of_getElem? (i := 743) (by decide +kernel)⟩
theorem lw_p30 : lw_okq (⟨"PitchSquare$RuleReader", "takeNumber", "()V"⟩, 13) := ⟨⟨by decide +kernel, by decide +kernel⟩, List.mem_of_getElem? (i := 138) (by decide +kernel), List.mem_of_getElem? (i := 746) (by decide +kernel), List.mem_of_getElem? (i := 747) (by decide +kernel)⟩
theorem lw_p31 : lw_okq (⟨"PitchSquare$RuleReader", "tokenNumber", "()I"⟩, 13) := ⟨⟨by decide +kernel, by decide +kernel⟩, List.mem_of_getElem? (i := 138) (by decide +kernel), List.mem_of_getElem? (i := 750) (by decide +kernel), List.mem_of_getElem? (i := 751) (by decide +kernel)⟩
def lw_privs_2 : List (MethodName × Nat) := [(⟨"PitchSquare$RuleReader", "byteHere", "()I"⟩, 13), (⟨"PitchSquare$RuleReader", "tokenLength", "()I"⟩, 13), (⟨"PitchSquare$RuleReader", "takeToken", "()V"⟩, 13), (⟨"PitchSquare$RuleReader", "blameToken", "(I)V"⟩, 13), (⟨"PitchSquare$RuleReader", "blame", "(II)V"⟩, 13), (⟨"PitchSquare$RuleReader", "takeName", "()V"⟩, 13), (⟨"PitchSquare$RuleReader", "isNameKnown", "()Z"⟩, 13), (⟨"PitchSquare$RuleReader", "isSameText", "(I)Z"⟩, 13), (⟨"PitchSquare$RuleReader", "keepName", "()V"⟩, 13), (⟨"PitchSquare$RuleReader", "takeWhen", "()V"⟩, 13), (⟨"PitchSquare$RuleReader", "tokenIs", "(Ljava/lang/String;)Z"⟩, 13), (⟨"PitchSquare$RuleReader", "takeWhat", "()V"⟩, 13), (⟨"PitchSquare$RuleReader", "tokenWhat", "()I"⟩, 13), (⟨"PitchSquare$RuleReader", "takeCompares", "()V"⟩, 13), (⟨"PitchSquare$RuleReader", "takeNumber", "()V"⟩, 13), (⟨"PitchSquare$RuleReader", "tokenNumber", "()I"⟩, 13)]
theorem lw_r2 : ∀ q ∈ lw_privs_2, lw_okq q := List.forall_mem_cons.mpr ⟨lw_p16, List.forall_mem_cons.mpr ⟨lw_p17, List.forall_mem_cons.mpr ⟨lw_p18, List.forall_mem_cons.mpr ⟨lw_p19, List.forall_mem_cons.mpr ⟨lw_p20, List.forall_mem_cons.mpr ⟨lw_p21, List.forall_mem_cons.mpr ⟨lw_p22, List.forall_mem_cons.mpr ⟨lw_p23, List.forall_mem_cons.mpr ⟨lw_p24, List.forall_mem_cons.mpr ⟨lw_p25, List.forall_mem_cons.mpr ⟨lw_p26, List.forall_mem_cons.mpr ⟨lw_p27, List.forall_mem_cons.mpr ⟨lw_p28, List.forall_mem_cons.mpr ⟨lw_p29, List.forall_mem_cons.mpr ⟨lw_p30, List.forall_mem_cons.mpr ⟨lw_p31, fun _ h => absurd h List.not_mem_nil⟩⟩⟩⟩⟩⟩⟩⟩⟩⟩⟩⟩⟩⟩⟩⟩
theorem lw_p32 : lw_okq (⟨"PitchSquare$RuleReader", "takeEnd", "()V"⟩, 13) := ⟨⟨by decide +kernel, by decide +kernel⟩, List.mem_of_getElem? (i := 138) (by decide +kernel), List.mem_of_getElem? (i := 759) (by decide +kernel), List.mem_of_getElem? (i := 760) (by decide +kernel)⟩
theorem lw_p33 : lw_okq (⟨"PitchSquare$RuleBook", "allHold", "(ILPitchSquare$Turf;I)Z"⟩, 5) := ⟨⟨by decide +kernel, by decide +kernel⟩, List.mem_of_getElem? (i := 144) (by decide +kernel), List.mem_of_getElem? (i := 794) (by decide +kernel), List.mem_of_getElem? (i := 795) (by decide +kernel)⟩
theorem lw_p34 : lw_okq (⟨"PitchSquare$Season", "forgetBest", "()V"⟩, 11) := ⟨⟨by decide +kernel, by decide +kernel⟩, List.mem_of_getElem? (i := 208) (by decide +kernel), List.mem_of_getElem? (i := 825) (by decide +kernel), List.mem_of_getElem? (i := 826) (by decide +kernel)⟩
theorem lw_p35 : lw_okq (⟨"PitchSquare$Season", "findBest", "(I)V"⟩, 11) := ⟨⟨by decide +kernel, by decide +kernel⟩, List.mem_of_getElem? (i := 208) (by decide +kernel), List.mem_of_getElem? (i := 859) (by decide +kernel), List.mem_of_getElem? (i := 860) (by decide +kernel)⟩
theorem lw_p36 : lw_okq (⟨"PitchSquare$Season", "fitsOneStrip", "(I)Z"⟩, 11) := ⟨⟨by decide +kernel, by decide +kernel⟩, List.mem_of_getElem? (i := 208) (by decide +kernel), List.mem_of_getElem? (i := 863) (by decide +kernel), List.mem_of_getElem? (i := 864) (by decide +kernel)⟩
theorem lw_p37 : lw_okq (⟨"PitchSquare$Season", "canShare", "(II)Z"⟩, 11) := ⟨⟨by decide +kernel, by decide +kernel⟩, List.mem_of_getElem? (i := 208) (by decide +kernel), List.mem_of_getElem? (i := 867) (by decide +kernel), List.mem_of_getElem? (i := 868) (by decide +kernel)⟩
theorem lw_p38 : lw_okq (⟨"PitchSquare$Season", "addUpGains", "(I)V"⟩, 11) := ⟨⟨by decide +kernel, by decide +kernel⟩, List.mem_of_getElem? (i := 208) (by decide +kernel), List.mem_of_getElem? (i := 875) (by decide +kernel), List.mem_of_getElem? (i := 876) (by decide +kernel)⟩
theorem lw_p39 : lw_okq (⟨"PitchSquare$Season", "valueOn", "(II)J"⟩, 11) := ⟨⟨by decide +kernel, by decide +kernel⟩, List.mem_of_getElem? (i := 208) (by decide +kernel), List.mem_of_getElem? (i := 879) (by decide +kernel), List.mem_of_getElem? (i := 880) (by decide +kernel)⟩
theorem lw_p40 : lw_okq (⟨"PitchSquare$Season", "bestWithStrip", "(I)J"⟩, 11) := ⟨⟨by decide +kernel, by decide +kernel⟩, List.mem_of_getElem? (i := 208) (by decide +kernel), List.mem_of_getElem? (i := 886) (by decide +kernel), List.mem_of_getElem? (i := 887) (by decide +kernel)⟩
theorem lw_p41 : lw_okq (⟨"PitchSquare$Marks", "partsOver", "(IIJ)J"⟩, 6) := ⟨⟨by decide +kernel, by decide +kernel⟩, List.mem_of_getElem? (i := 252) (by decide +kernel), List.mem_of_getElem? (i := 935) (by decide +kernel), List.mem_of_getElem? (i := 936) (by decide +kernel)⟩
theorem lw_p42 : lw_okq (⟨"PitchSquareModel", "refuse", "(I)I"⟩, 58) := ⟨⟨by decide +kernel, by decide +kernel⟩, List.mem_of_getElem? (i := 955) (by decide +kernel), List.mem_of_getElem? (i := 1144) (by decide +kernel), List.mem_of_getElem? (i := 1145) (by decide +kernel)⟩
theorem lw_p43 : lw_okq (⟨"PitchSquareModel", "isStrip", "(I)Z"⟩, 58) := ⟨⟨by decide +kernel, by decide +kernel⟩, List.mem_of_getElem? (i := 955) (by decide +kernel), List.mem_of_getElem? (i := 1152) (by decide +kernel), List.mem_of_getElem? (i := 1153) (by decide +kernel)⟩
theorem lw_p44 : lw_okq (⟨"PitchSquareModel", "no", "(I)Z"⟩, 58) := ⟨⟨by decide +kernel, by decide +kernel⟩, List.mem_of_getElem? (i := 955) (by decide +kernel), List.mem_of_getElem? (i := 1156) (by decide +kernel), List.mem_of_getElem? (i := 1157) (by decide +kernel)⟩
theorem lw_p45 : lw_okq (⟨"PitchSquareModel", "begin", "(I)V"⟩, 58) := ⟨⟨by decide +kernel, by decide +kernel⟩, List.mem_of_getElem? (i := 955) (by decide +kernel), List.mem_of_getElem? (i := 1167) (by decide +kernel), List.mem_of_getElem? (i := 1168) (by decide +kernel)⟩
theorem lw_p46 : lw_okq (⟨"PitchSquareModel", "bounce", "()I"⟩, 58) := ⟨⟨by decide +kernel, by decide +kernel⟩, List.mem_of_getElem? (i := 955) (by decide +kernel), List.mem_of_getElem? (i := 1171) (by decide +kernel), List.mem_of_getElem? (i := 1172) (by decide +kernel)⟩
theorem lw_p47 : lw_okq (⟨"PitchSquareModel", "steps", "(IIII)V"⟩, 58) := ⟨⟨by decide +kernel, by decide +kernel⟩, List.mem_of_getElem? (i := 955) (by decide +kernel), List.mem_of_getElem? (i := 1195) (by decide +kernel), List.mem_of_getElem? (i := 1196) (by decide +kernel)⟩
def lw_privs_3 : List (MethodName × Nat) := [(⟨"PitchSquare$RuleReader", "takeEnd", "()V"⟩, 13), (⟨"PitchSquare$RuleBook", "allHold", "(ILPitchSquare$Turf;I)Z"⟩, 5), (⟨"PitchSquare$Season", "forgetBest", "()V"⟩, 11), (⟨"PitchSquare$Season", "findBest", "(I)V"⟩, 11), (⟨"PitchSquare$Season", "fitsOneStrip", "(I)Z"⟩, 11), (⟨"PitchSquare$Season", "canShare", "(II)Z"⟩, 11), (⟨"PitchSquare$Season", "addUpGains", "(I)V"⟩, 11), (⟨"PitchSquare$Season", "valueOn", "(II)J"⟩, 11), (⟨"PitchSquare$Season", "bestWithStrip", "(I)J"⟩, 11), (⟨"PitchSquare$Marks", "partsOver", "(IIJ)J"⟩, 6), (⟨"PitchSquareModel", "refuse", "(I)I"⟩, 58), (⟨"PitchSquareModel", "isStrip", "(I)Z"⟩, 58), (⟨"PitchSquareModel", "no", "(I)Z"⟩, 58), (⟨"PitchSquareModel", "begin", "(I)V"⟩, 58), (⟨"PitchSquareModel", "bounce", "()I"⟩, 58), (⟨"PitchSquareModel", "steps", "(IIII)V"⟩, 58)]
theorem lw_r3 : ∀ q ∈ lw_privs_3, lw_okq q := List.forall_mem_cons.mpr ⟨lw_p32, List.forall_mem_cons.mpr ⟨lw_p33, List.forall_mem_cons.mpr ⟨lw_p34, List.forall_mem_cons.mpr ⟨lw_p35, List.forall_mem_cons.mpr ⟨lw_p36, List.forall_mem_cons.mpr ⟨lw_p37, List.forall_mem_cons.mpr ⟨lw_p38, List.forall_mem_cons.mpr ⟨lw_p39, List.forall_mem_cons.mpr ⟨lw_p40, List.forall_mem_cons.mpr ⟨lw_p41, List.forall_mem_cons.mpr ⟨lw_p42, List.forall_mem_cons.mpr ⟨lw_p43, List.forall_mem_cons.mpr ⟨lw_p44, List.forall_mem_cons.mpr ⟨lw_p45, List.forall_mem_cons.mpr ⟨lw_p46, List.forall_mem_cons.mpr ⟨lw_p47, fun _ h => absurd h List.not_mem_nil⟩⟩⟩⟩⟩⟩⟩⟩⟩⟩⟩⟩⟩⟩⟩⟩
theorem lw_p48 : lw_okq (⟨"PitchSquareModel", "grows", "(II)V"⟩, 58) := ⟨⟨by decide +kernel, by decide +kernel⟩, List.mem_of_getElem? (i := 955) (by decide +kernel), List.mem_of_getElem? (i := 1199) (by decide +kernel), List.mem_of_getElem? (i := 1200) (by decide +kernel)⟩
theorem lw_p49 : lw_okq (⟨"PitchSquareModel", "many", "(II)I"⟩, 58) := ⟨⟨by decide +kernel, by decide +kernel⟩, List.mem_of_getElem? (i := 955) (by decide +kernel), List.mem_of_getElem? (i := 1219) (by decide +kernel), List.mem_of_getElem? (i := 1220) (by decide +kernel)⟩
theorem lw_p50 : lw_okq (⟨"PitchSquareModel", "sumOf", "(II)I"⟩, 58) := ⟨⟨by decide +kernel, by decide +kernel⟩, List.mem_of_getElem? (i := 955) (by decide +kernel), List.mem_of_getElem? (i := 1223) (by decide +kernel), List.mem_of_getElem? (i := 1224) (by decide +kernel)⟩
theorem lw_p51 : lw_okq (⟨"PitchSquareModel", "tells", "(JJ)Z"⟩, 58) := ⟨⟨by decide +kernel, by decide +kernel⟩, List.mem_of_getElem? (i := 955) (by decide +kernel), List.mem_of_getElem? (i := 1227) (by decide +kernel), List.mem_of_getElem? (i := 1228) (by decide +kernel)⟩
theorem lw_p52 : lw_okq (⟨"PitchSquareModel", "lay", "(I)V"⟩, 58) := ⟨⟨by decide +kernel, by decide +kernel⟩, List.mem_of_getElem? (i := 955) (by decide +kernel), List.mem_of_getElem? (i := 1247) (by decide +kernel), List.mem_of_getElem? (i := 1248) (by decide +kernel)⟩
theorem lw_p53 : lw_okq (⟨"PitchSquareModel", "next", "()V"⟩, 58) := ⟨⟨by decide +kernel, by decide +kernel⟩, List.mem_of_getElem? (i := 955) (by decide +kernel), List.mem_of_getElem? (i := 1255) (by decide +kernel), List.mem_of_getElem? (i := 1256) (by decide +kernel)⟩
theorem lw_p54 : lw_okq (⟨"PitchSquareModel", "look", "(I)I"⟩, 58) := ⟨⟨by decide +kernel, by decide +kernel⟩, List.mem_of_getElem? (i := 955) (by decide +kernel), List.mem_of_getElem? (i := 1259) (by decide +kernel), List.mem_of_getElem? (i := 1260) (by decide +kernel)⟩
theorem lw_p55 : lw_okq (⟨"PitchSquareModel", "readRule", "()V"⟩, 58) := ⟨⟨by decide +kernel, by decide +kernel⟩, List.mem_of_getElem? (i := 955) (by decide +kernel), List.mem_of_getElem? (i := 1272) (by decide +kernel), List.mem_of_getElem? (i := 1273) (by decide +kernel)⟩
theorem lw_p56 : lw_okq (⟨"PitchSquareModel", "wrong", "()V"⟩, 58) := ⟨⟨by decide +kernel, by decide +kernel⟩, List.mem_of_getElem? (i := 955) (by decide +kernel), List.mem_of_getElem? (i := 1276) (by decide +kernel), List.mem_of_getElem? (i := 1277) (by decide +kernel)⟩
theorem lw_p57 : lw_okq (⟨"PitchSquareModel", "fail", "(II)V"⟩, 58) := ⟨⟨by decide +kernel, by decide +kernel⟩, List.mem_of_getElem? (i := 955) (by decide +kernel), List.mem_of_getElem? (i := 1280) (by decide +kernel), List.mem_of_getElem? (i := 1281) (by decide +kernel)⟩
theorem lw_p58 : lw_okq (⟨"PitchSquareModel", "isWord", "(J)Z"⟩, 58) := ⟨⟨by decide +kernel, by decide +kernel⟩, List.mem_of_getElem? (i := 955) (by decide +kernel), List.mem_of_getElem? (i := 1287) (by decide +kernel), List.mem_of_getElem? (i := 1288) (by decide +kernel)⟩
theorem lw_p59 : lw_okq (⟨"PitchSquareModel", "readTest", "()V"⟩, 58) := ⟨⟨by decide +kernel, by decide +kernel⟩, List.mem_of_getElem? (i := 955) (by decide +kernel), List.mem_of_getElem? (i := 1291) (by decide +kernel), List.mem_of_getElem? (i := 1292) (by decide +kernel)⟩
theorem lw_p60 : lw_okq (⟨"PitchSquareModel", "whatOf", "()I"⟩, 58) := ⟨⟨by decide +kernel, by decide +kernel⟩, List.mem_of_getElem? (i := 955) (by decide +kernel), List.mem_of_getElem? (i := 1295) (by decide +kernel), List.mem_of_getElem? (i := 1296) (by decide +kernel)⟩
theorem lw_p61 : lw_okq (⟨"PitchSquareModel", "isSign", "(I)Z"⟩, 58) := ⟨⟨by decide +kernel, by decide +kernel⟩, List.mem_of_getElem? (i := 955) (by decide +kernel), List.mem_of_getElem? (i := 1299) (by decide +kernel), List.mem_of_getElem? (i := 1300) (by decide +kernel)⟩
theorem lw_p62 : lw_okq (⟨"PitchSquareModel", "rated", "(I)I"⟩, 58) := ⟨⟨by decide +kernel, by decide +kernel⟩, List.mem_of_getElem? (i := 955) (by decide +kernel), List.mem_of_getElem? (i := 1311) (by decide +kernel), List.mem_of_getElem? (i := 1312) (by decide +kernel)⟩
theorem lw_p63 : lw_okq (⟨"PitchSquareModel", "isMatch", "(I)Z"⟩, 58) := ⟨⟨by decide +kernel, by decide +kernel⟩, List.mem_of_getElem? (i := 955) (by decide +kernel), List.mem_of_getElem? (i := 1327) (by decide +kernel), List.mem_of_getElem? (i := 1328) (by decide +kernel)⟩
def lw_privs_4 : List (MethodName × Nat) := [(⟨"PitchSquareModel", "grows", "(II)V"⟩, 58), (⟨"PitchSquareModel", "many", "(II)I"⟩, 58), (⟨"PitchSquareModel", "sumOf", "(II)I"⟩, 58), (⟨"PitchSquareModel", "tells", "(JJ)Z"⟩, 58), (⟨"PitchSquareModel", "lay", "(I)V"⟩, 58), (⟨"PitchSquareModel", "next", "()V"⟩, 58), (⟨"PitchSquareModel", "look", "(I)I"⟩, 58), (⟨"PitchSquareModel", "readRule", "()V"⟩, 58), (⟨"PitchSquareModel", "wrong", "()V"⟩, 58), (⟨"PitchSquareModel", "fail", "(II)V"⟩, 58), (⟨"PitchSquareModel", "isWord", "(J)Z"⟩, 58), (⟨"PitchSquareModel", "readTest", "()V"⟩, 58), (⟨"PitchSquareModel", "whatOf", "()I"⟩, 58), (⟨"PitchSquareModel", "isSign", "(I)Z"⟩, 58), (⟨"PitchSquareModel", "rated", "(I)I"⟩, 58), (⟨"PitchSquareModel", "isMatch", "(I)Z"⟩, 58)]
theorem lw_r4 : ∀ q ∈ lw_privs_4, lw_okq q := List.forall_mem_cons.mpr ⟨lw_p48, List.forall_mem_cons.mpr ⟨lw_p49, List.forall_mem_cons.mpr ⟨lw_p50, List.forall_mem_cons.mpr ⟨lw_p51, List.forall_mem_cons.mpr ⟨lw_p52, List.forall_mem_cons.mpr ⟨lw_p53, List.forall_mem_cons.mpr ⟨lw_p54, List.forall_mem_cons.mpr ⟨lw_p55, List.forall_mem_cons.mpr ⟨lw_p56, List.forall_mem_cons.mpr ⟨lw_p57, List.forall_mem_cons.mpr ⟨lw_p58, List.forall_mem_cons.mpr ⟨lw_p59, List.forall_mem_cons.mpr ⟨lw_p60, List.forall_mem_cons.mpr ⟨lw_p61, List.forall_mem_cons.mpr ⟨lw_p62, List.forall_mem_cons.mpr ⟨lw_p63, fun _ h => absurd h List.not_mem_nil⟩⟩⟩⟩⟩⟩⟩⟩⟩⟩⟩⟩⟩⟩⟩⟩
theorem lw_p64 : lw_okq (⟨"PitchSquareModel", "gives", "()I"⟩, 58) := ⟨⟨by decide +kernel, by decide +kernel⟩, List.mem_of_getElem? (i := 955) (by decide +kernel), List.mem_of_getElem? (i := 1339) (by decide +kernel), List.mem_of_getElem? (i := 1340) (by decide +kernel)⟩
theorem lw_p65 : lw_okq (⟨"PitchSquareModel", "canLay", "(II)Z"⟩, 58) := ⟨⟨by decide +kernel, by decide +kernel⟩, List.mem_of_getElem? (i := 955) (by decide +kernel), List.mem_of_getElem? (i := 1343) (by decide +kernel), List.mem_of_getElem? (i := 1344) (by decide +kernel)⟩
theorem lw_p66 : lw_okq (⟨"PitchSquareModel", "canBoth", "(II)Z"⟩, 58) := ⟨⟨by decide +kernel, by decide +kernel⟩, List.mem_of_getElem? (i := 955) (by decide +kernel), List.mem_of_getElem? (i := 1347) (by decide +kernel), List.mem_of_getElem? (i := 1348) (by decide +kernel)⟩
theorem lw_p67 : lw_okq (⟨"PitchSquareModel", "manyBy", "(I)I"⟩, 58) := ⟨⟨by decide +kernel, by decide +kernel⟩, List.mem_of_getElem? (i := 955) (by decide +kernel), List.mem_of_getElem? (i := 1363) (by decide +kernel), List.mem_of_getElem? (i := 1364) (by decide +kernel)⟩
theorem lw_p68 : lw_okq (⟨"PitchSquareModel", "sumBy", "(I)I"⟩, 58) := ⟨⟨by decide +kernel, by decide +kernel⟩, List.mem_of_getElem? (i := 955) (by decide +kernel), List.mem_of_getElem? (i := 1367) (by decide +kernel), List.mem_of_getElem? (i := 1368) (by decide +kernel)⟩
def lw_privs_5 : List (MethodName × Nat) := [(⟨"PitchSquareModel", "gives", "()I"⟩, 58), (⟨"PitchSquareModel", "canLay", "(II)Z"⟩, 58), (⟨"PitchSquareModel", "canBoth", "(II)Z"⟩, 58), (⟨"PitchSquareModel", "manyBy", "(I)I"⟩, 58), (⟨"PitchSquareModel", "sumBy", "(I)I"⟩, 58)]
theorem lw_r5 : ∀ q ∈ lw_privs_5, lw_okq q := List.forall_mem_cons.mpr ⟨lw_p64, List.forall_mem_cons.mpr ⟨lw_p65, List.forall_mem_cons.mpr ⟨lw_p66, List.forall_mem_cons.mpr ⟨lw_p67, List.forall_mem_cons.mpr ⟨lw_p68, fun _ h => absurd h List.not_mem_nil⟩⟩⟩⟩⟩
def lw_privs : List (MethodName × Nat) := lw_privs_1 ++ (lw_privs_2 ++ (lw_privs_3 ++ (lw_privs_4 ++ (lw_privs_5))))
def lw_tbl : List Cond := k2_sels lw_privs ++ tables_1
theorem lw_privs_ok : ∀ q ∈ lw_privs, lw_okq q := by
  show ∀ q ∈ lw_privs_1 ++ (lw_privs_2 ++ (lw_privs_3 ++ (lw_privs_4 ++ (lw_privs_5)))), lw_okq q
  exact List.forall_mem_append.mpr ⟨lw_r1, List.forall_mem_append.mpr ⟨lw_r2, List.forall_mem_append.mpr ⟨lw_r3, List.forall_mem_append.mpr ⟨lw_r4, lw_r5⟩⟩⟩⟩
-- ===== end of PART A; then your names; then what follows =====
end
section
def RX0 : String := "PitchSquare$Fraction"
def TX0 : u_T := fun k => match k with
  | 0 => ("PitchSquare$Fraction", "over", "J", false)
  | _ => ("PitchSquare$Fraction", "under", "J", false)
def tyX0 : Nat → FieldType := fun k => match k with
  | 0 => .long
  | _ => .long
abbrev wsX00 : List Cond := u_ws RX0 TX0 2
theorem nmX0 : ∀ a, a < 2 → ∀ b, b < 2 → a ≠ b → (TX0 a).2.1 ≠ (TX0 b).2.1 := by decide +kernel
theorem tyX0_ok : ∀ k, k < 2 → parseFieldDescriptor (TX0 k).2.2.1 = some (tyX0 k) := by decide +kernel
abbrev cX0_init : ByteArray := prog_2_method_1_code
def yX0_init : MethodName := ⟨RX0, "<init>", "()V"⟩
abbrev cX0_become : ByteArray := prog_2_method_2_code
def yX0_become : MethodName := ⟨RX0, "become", "(JJ)V"⟩
abbrev cX0_upperNumber : ByteArray := prog_2_method_3_code
def yX0_upperNumber : MethodName := ⟨RX0, "upperNumber", "()J"⟩
abbrev cX0_lowerNumber : ByteArray := prog_2_method_4_code
def yX0_lowerNumber : MethodName := ⟨RX0, "lowerNumber", "()J"⟩
abbrev cX0_commonDivisor : ByteArray := prog_2_method_5_code
def yX0_commonDivisor : MethodName := ⟨RX0, "commonDivisor", "(JJ)J"⟩
def RX1 : String := "PitchSquare$Marks"
def TX1 : u_T := fun k => match k with
  | 0 => ("PitchSquare$Marks", "counts", "[[I", true)
  | 1 => ("PitchSquare$Marks", "sums", "[[I", true)
  | 2 => ("PitchSquare$Marks", "resultCounts", "[J", true)
  | 3 => ("PitchSquare$Marks", "resultSums", "[J", true)
  | 4 => ("PitchSquare$Marks", "allCount", "J", false)
  | _ => ("PitchSquare$Marks", "allSum", "J", false)
def tyX1 : Nat → FieldType := fun k => match k with
  | 0 => .array (.array .int)
  | 1 => .array (.array .int)
  | 2 => .array .long
  | 3 => .array .long
  | 4 => .long
  | _ => .long
abbrev wsX10 : List Cond := u_ws RX1 TX1 6
theorem nmX1 : ∀ a, a < 6 → ∀ b, b < 6 → a ≠ b → (TX1 a).2.1 ≠ (TX1 b).2.1 := by decide +kernel
theorem tyX1_ok : ∀ k, k < 6 → parseFieldDescriptor (TX1 k).2.2.1 = some (tyX1 k) := by decide +kernel
abbrev cX1_init : ByteArray := prog_3_method_1_code
def yX1_init : MethodName := ⟨RX1, "<init>", "()V"⟩
abbrev cX1_isFull : ByteArray := prog_3_method_2_code
def yX1_isFull : MethodName := ⟨RX1, "isFull", "()Z"⟩
abbrev cX1_add : ByteArray := prog_3_method_3_code
def yX1_add : MethodName := ⟨RX1, "add", "(III)V"⟩
abbrev cX1_partInto : ByteArray := prog_3_method_4_code
def yX1_partInto : MethodName := ⟨RX1, "partInto", "(LPitchSquare$Fraction;I)V"⟩
abbrev cX1_fairInto : ByteArray := prog_3_method_5_code
def yX1_fairInto : MethodName := ⟨RX1, "fairInto", "(LPitchSquare$Fraction;I)Z"⟩
abbrev cX1_partsOver : ByteArray := prog_3_method_6_code
def yX1_partsOver : MethodName := ⟨RX1, "partsOver", "(IIJ)J"⟩
def RX2 : String := "PitchSquare$Measures"
def TX2 : u_T := fun k => match k with
  | 0 => ("PitchSquare$Measures", "strips", "[I", true)
  | 1 => ("PitchSquare$Measures", "days", "[I", true)
  | 2 => ("PitchSquare$Measures", "bounces", "[I", true)
  | _ => ("PitchSquare$Measures", "count", "I", false)
def tyX2 : Nat → FieldType := fun k => match k with
  | 0 => .array .int
  | 1 => .array .int
  | 2 => .array .int
  | _ => .int
abbrev wsX20 : List Cond := u_ws RX2 TX2 4
theorem nmX2 : ∀ a, a < 4 → ∀ b, b < 4 → a ≠ b → (TX2 a).2.1 ≠ (TX2 b).2.1 := by decide +kernel
theorem tyX2_ok : ∀ k, k < 4 → parseFieldDescriptor (TX2 k).2.2.1 = some (tyX2 k) := by decide +kernel
abbrev cX2_init : ByteArray := prog_4_method_1_code
def yX2_init : MethodName := ⟨RX2, "<init>", "()V"⟩
abbrev cX2_isFull : ByteArray := prog_4_method_2_code
def yX2_isFull : MethodName := ⟨RX2, "isFull", "()Z"⟩
abbrev cX2_add : ByteArray := prog_4_method_3_code
def yX2_add : MethodName := ⟨RX2, "add", "(III)V"⟩
abbrev cX2_readInto : ByteArray := prog_4_method_4_code
def yX2_readInto : MethodName := ⟨RX2, "readInto", "(LPitchSquare$Fraction;II)Z"⟩
abbrev cX2_nearest : ByteArray := prog_4_method_5_code
def yX2_nearest : MethodName := ⟨RX2, "nearest", "(III)I"⟩
abbrev cX2_manyOf : ByteArray := prog_4_method_6_code
def yX2_manyOf : MethodName := ⟨RX2, "manyOf", "(II)J"⟩
abbrev cX2_sumOf : ByteArray := prog_4_method_7_code
def yX2_sumOf : MethodName := ⟨RX2, "sumOf", "(II)J"⟩
def RX3 : String := "PitchSquare$Planner"
def TX3 : u_T := fun k => match k with
  | 0 => ("PitchSquare$Planner", "behind", "[LPitchSquare$Turf;", true)
  | 1 => ("PitchSquare$Planner", "tried", "[I", true)
  | 2 => ("PitchSquare$Planner", "best", "[I", true)
  | 3 => ("PitchSquare$Planner", "rains", "[I", true)
  | 4 => ("PitchSquare$Planner", "suns", "[I", true)
  | 5 => ("PitchSquare$Planner", "days", "I", false)
  | 6 => ("PitchSquare$Planner", "mostBounce", "I", false)
  | _ => ("PitchSquare$Planner", "fewestWorks", "I", false)
def tyX3 : Nat → FieldType := fun k => match k with
  | 0 => .array (.object "PitchSquare$Turf")
  | 1 => .array .int
  | 2 => .array .int
  | 3 => .array .int
  | 4 => .array .int
  | 5 => .int
  | 6 => .int
  | _ => .int
abbrev wsX30 : List Cond := u_ws RX3 TX3 8
theorem nmX3 : ∀ a, a < 8 → ∀ b, b < 8 → a ≠ b → (TX3 a).2.1 ≠ (TX3 b).2.1 := by decide +kernel
theorem tyX3_ok : ∀ k, k < 8 → parseFieldDescriptor (TX3 k).2.2.1 = some (tyX3 k) := by decide +kernel
abbrev cX3_init : ByteArray := prog_5_method_1_code
def yX3_init : MethodName := ⟨RX3, "<init>", "()V"⟩
abbrev cX3_beginWith : ByteArray := prog_5_method_2_code
def yX3_beginWith : MethodName := ⟨RX3, "beginWith", "(LPitchSquare$Turf;LPitchSquare$Weather;II)V"⟩
abbrev cX3_bestBounce : ByteArray := prog_5_method_3_code
def yX3_bestBounce : MethodName := ⟨RX3, "bestBounce", "(II)I"⟩
abbrev cX3_worksOn : ByteArray := prog_5_method_4_code
def yX3_worksOn : MethodName := ⟨RX3, "worksOn", "(I)I"⟩
abbrev cX3_tryFrom : ByteArray := prog_5_method_5_code
def yX3_tryFrom : MethodName := ⟨RX3, "tryFrom", "(IIII)V"⟩
abbrev cX3_weigh : ByteArray := prog_5_method_6_code
def yX3_weigh : MethodName := ⟨RX3, "weigh", "(I)V"⟩
def RX4 : String := "PitchSquare$RuleBook"
def TX4 : u_T := fun k => match k with
  | 0 => ("PitchSquare$RuleBook", "testCounts", "[I", true)
  | 1 => ("PitchSquare$RuleBook", "asked", "[[I", true)
  | 2 => ("PitchSquare$RuleBook", "signs", "[[I", true)
  | 3 => ("PitchSquare$RuleBook", "numbers", "[[I", true)
  | _ => ("PitchSquare$RuleBook", "count", "I", false)
def tyX4 : Nat → FieldType := fun k => match k with
  | 0 => .array .int
  | 1 => .array (.array .int)
  | 2 => .array (.array .int)
  | 3 => .array (.array .int)
  | _ => .int
abbrev wsX40 : List Cond := u_ws RX4 TX4 5
theorem nmX4 : ∀ a, a < 5 → ∀ b, b < 5 → a ≠ b → (TX4 a).2.1 ≠ (TX4 b).2.1 := by decide +kernel
theorem tyX4_ok : ∀ k, k < 5 → parseFieldDescriptor (TX4 k).2.2.1 = some (tyX4 k) := by decide +kernel
abbrev cX4_init : ByteArray := prog_6_method_1_code
def yX4_init : MethodName := ⟨RX4, "<init>", "()V"⟩
abbrev cX4_clear : ByteArray := prog_6_method_2_code
def yX4_clear : MethodName := ⟨RX4, "clear", "()V"⟩
abbrev cX4_ruleCount : ByteArray := prog_6_method_3_code
def yX4_ruleCount : MethodName := ⟨RX4, "ruleCount", "()I"⟩
abbrev cX4_isFull : ByteArray := prog_6_method_4_code
def yX4_isFull : MethodName := ⟨RX4, "isFull", "()Z"⟩
abbrev cX4_isLatestRuleFull : ByteArray := prog_6_method_5_code
def yX4_isLatestRuleFull : MethodName := ⟨RX4, "isLatestRuleFull", "()Z"⟩
abbrev cX4_addRule : ByteArray := prog_6_method_6_code
def yX4_addRule : MethodName := ⟨RX4, "addRule", "()V"⟩
abbrev cX4_addTest : ByteArray := prog_6_method_7_code
def yX4_addTest : MethodName := ⟨RX4, "addTest", "(III)V"⟩
abbrev cX4_ruleFor : ByteArray := prog_6_method_8_code
def yX4_ruleFor : MethodName := ⟨RX4, "ruleFor", "(LPitchSquare$Turf;I)I"⟩
abbrev cX4_allHold : ByteArray := prog_6_method_9_code
def yX4_allHold : MethodName := ⟨RX4, "allHold", "(ILPitchSquare$Turf;I)Z"⟩
abbrev cX4_holds : ByteArray := prog_6_method_10_code
def yX4_holds : MethodName := ⟨RX4, "holds", "(III)Z"⟩
def RX5 : String := "PitchSquare$RuleReader"
def TX5 : u_T := fun k => match k with
  | 0 => ("PitchSquare$RuleReader", "nameStarts", "[I", true)
  | 1 => ("PitchSquare$RuleReader", "nameLengths", "[I", true)
  | 2 => ("PitchSquare$RuleReader", "text", "LPitchSquare$Tape;", true)
  | 3 => ("PitchSquare$RuleReader", "book", "LPitchSquare$RuleBook;", false)
  | 4 => ("PitchSquare$RuleReader", "textLength", "I", false)
  | 5 => ("PitchSquare$RuleReader", "place", "I", false)
  | 6 => ("PitchSquare$RuleReader", "tokenStart", "I", false)
  | 7 => ("PitchSquare$RuleReader", "tokenKind", "I", false)
  | 8 => ("PitchSquare$RuleReader", "awaited", "I", false)
  | 9 => ("PitchSquare$RuleReader", "testWhat", "I", false)
  | 10 => ("PitchSquare$RuleReader", "testSign", "I", false)
  | 11 => ("PitchSquare$RuleReader", "foundKind", "I", false)
  | _ => ("PitchSquare$RuleReader", "foundPlace", "I", false)
def tyX5 : Nat → FieldType := fun k => match k with
  | 0 => .array .int
  | 1 => .array .int
  | 2 => .object "PitchSquare$Tape"
  | 3 => .object "PitchSquare$RuleBook"
  | 4 => .int
  | 5 => .int
  | 6 => .int
  | 7 => .int
  | 8 => .int
  | 9 => .int
  | 10 => .int
  | 11 => .int
  | _ => .int
abbrev wsX50 : List Cond := u_ws RX5 TX5 13
theorem nmX5 : ∀ a, a < 13 → ∀ b, b < 13 → a ≠ b → (TX5 a).2.1 ≠ (TX5 b).2.1 := by decide +kernel
theorem tyX5_ok : ∀ k, k < 13 → parseFieldDescriptor (TX5 k).2.2.1 = some (tyX5 k) := by decide +kernel
abbrev cX5_init : ByteArray := prog_7_method_1_code
def yX5_init : MethodName := ⟨RX5, "<init>", "(LPitchSquare$Tape;)V"⟩
abbrev cX5_faultKind : ByteArray := prog_7_method_2_code
def yX5_faultKind : MethodName := ⟨RX5, "faultKind", "()I"⟩
abbrev cX5_faultPlace : ByteArray := prog_7_method_3_code
def yX5_faultPlace : MethodName := ⟨RX5, "faultPlace", "()I"⟩
abbrev cX5_exchangeBook : ByteArray := prog_7_method_4_code
def yX5_exchangeBook : MethodName := ⟨RX5, "exchangeBook", "(LPitchSquare$RuleBook;)LPitchSquare$RuleBook;"⟩
abbrev cX5_readAll : ByteArray := prog_7_method_5_code
def yX5_readAll : MethodName := ⟨RX5, "readAll", "(I)Z"⟩
abbrev cX5_blame : ByteArray := prog_7_method_6_code
def yX5_blame : MethodName := ⟨RX5, "blame", "(II)V"⟩
abbrev cX5_blameToken : ByteArray := prog_7_method_7_code
def yX5_blameToken : MethodName := ⟨RX5, "blameToken", "(I)V"⟩
abbrev cX5_nextToken : ByteArray := prog_7_method_8_code
def yX5_nextToken : MethodName := ⟨RX5, "nextToken", "()Z"⟩
abbrev cX5_takeToken : ByteArray := prog_7_method_9_code
def yX5_takeToken : MethodName := ⟨RX5, "takeToken", "()V"⟩
abbrev cX5_takeName : ByteArray := prog_7_method_10_code
def yX5_takeName : MethodName := ⟨RX5, "takeName", "()V"⟩
abbrev cX5_takeWhen : ByteArray := prog_7_method_11_code
def yX5_takeWhen : MethodName := ⟨RX5, "takeWhen", "()V"⟩
abbrev cX5_takeWhat : ByteArray := prog_7_method_12_code
def yX5_takeWhat : MethodName := ⟨RX5, "takeWhat", "()V"⟩
abbrev cX5_takeCompares : ByteArray := prog_7_method_13_code
def yX5_takeCompares : MethodName := ⟨RX5, "takeCompares", "()V"⟩
abbrev cX5_takeNumber : ByteArray := prog_7_method_14_code
def yX5_takeNumber : MethodName := ⟨RX5, "takeNumber", "()V"⟩
abbrev cX5_takeEnd : ByteArray := prog_7_method_15_code
def yX5_takeEnd : MethodName := ⟨RX5, "takeEnd", "()V"⟩
abbrev cX5_keepName : ByteArray := prog_7_method_16_code
def yX5_keepName : MethodName := ⟨RX5, "keepName", "()V"⟩
abbrev cX5_isNameKnown : ByteArray := prog_7_method_17_code
def yX5_isNameKnown : MethodName := ⟨RX5, "isNameKnown", "()Z"⟩
abbrev cX5_isSameText : ByteArray := prog_7_method_18_code
def yX5_isSameText : MethodName := ⟨RX5, "isSameText", "(I)Z"⟩
abbrev cX5_tokenLength : ByteArray := prog_7_method_19_code
def yX5_tokenLength : MethodName := ⟨RX5, "tokenLength", "()I"⟩
abbrev cX5_tokenIs : ByteArray := prog_7_method_20_code
def yX5_tokenIs : MethodName := ⟨RX5, "tokenIs", "(Ljava/lang/String;)Z"⟩
abbrev cX5_tokenWhat : ByteArray := prog_7_method_21_code
def yX5_tokenWhat : MethodName := ⟨RX5, "tokenWhat", "()I"⟩
abbrev cX5_tokenNumber : ByteArray := prog_7_method_22_code
def yX5_tokenNumber : MethodName := ⟨RX5, "tokenNumber", "()I"⟩
abbrev cX5_byteHere : ByteArray := prog_7_method_23_code
def yX5_byteHere : MethodName := ⟨RX5, "byteHere", "()I"⟩
abbrev cX5_wordFor : ByteArray := prog_7_method_24_code
def yX5_wordFor : MethodName := ⟨RX5, "wordFor", "(I)Ljava/lang/String;"⟩
abbrev cX5_isBlank : ByteArray := prog_7_method_25_code
def yX5_isBlank : MethodName := ⟨RX5, "isBlank", "(I)Z"⟩
abbrev cX5_isLetter : ByteArray := prog_7_method_26_code
def yX5_isLetter : MethodName := ⟨RX5, "isLetter", "(I)Z"⟩
abbrev cX5_isDigit : ByteArray := prog_7_method_27_code
def yX5_isDigit : MethodName := ⟨RX5, "isDigit", "(I)Z"⟩
abbrev cX5_isSign : ByteArray := prog_7_method_28_code
def yX5_isSign : MethodName := ⟨RX5, "isSign", "(I)Z"⟩
def RX6 : String := "PitchSquare$Season"
def TX6 : u_T := fun k => match k with
  | 0 => ("PitchSquare$Season", "days", "[I", true)
  | 1 => ("PitchSquare$Season", "ranks", "[I", true)
  | 2 => ("PitchSquare$Season", "worths", "[[I", true)
  | 3 => ("PitchSquare$Season", "count", "I", false)
  | 4 => ("PitchSquare$Season", "rest", "I", false)
  | 5 => ("PitchSquare$Season", "spared", "I", false)
  | 6 => ("PitchSquare$Season", "fits", "[Z", true)
  | 7 => ("PitchSquare$Season", "gains", "[J", true)
  | 8 => ("PitchSquare$Season", "values", "[J", true)
  | 9 => ("PitchSquare$Season", "bestValue", "J", false)
  | _ => ("PitchSquare$Season", "bestForStrips", "I", false)
def tyX6 : Nat → FieldType := fun k => match k with
  | 0 => .array .int
  | 1 => .array .int
  | 2 => .array (.array .int)
  | 3 => .int
  | 4 => .int
  | 5 => .int
  | 6 => .array .boolean
  | 7 => .array .long
  | 8 => .array .long
  | 9 => .long
  | _ => .int
abbrev wsX60 : List Cond := u_ws RX6 TX6 11
theorem nmX6 : ∀ a, a < 11 → ∀ b, b < 11 → a ≠ b → (TX6 a).2.1 ≠ (TX6 b).2.1 := by decide +kernel
theorem tyX6_ok : ∀ k, k < 11 → parseFieldDescriptor (TX6 k).2.2.1 = some (tyX6 k) := by decide +kernel
abbrev cX6_init : ByteArray := prog_8_method_1_code
def yX6_init : MethodName := ⟨RX6, "<init>", "()V"⟩
abbrev cX6_hasMatch : ByteArray := prog_8_method_2_code
def yX6_hasMatch : MethodName := ⟨RX6, "hasMatch", "(I)Z"⟩
abbrev cX6_isFull : ByteArray := prog_8_method_3_code
def yX6_isFull : MethodName := ⟨RX6, "isFull", "()Z"⟩
abbrev cX6_isTaken : ByteArray := prog_8_method_4_code
def yX6_isTaken : MethodName := ⟨RX6, "isTaken", "(I)Z"⟩
abbrev cX6_addMatch : ByteArray := prog_8_method_5_code
def yX6_addMatch : MethodName := ⟨RX6, "addMatch", "(II)I"⟩
abbrev cX6_setWorth : ByteArray := prog_8_method_6_code
def yX6_setWorth : MethodName := ⟨RX6, "setWorth", "(III)V"⟩
abbrev cX6_setRests : ByteArray := prog_8_method_7_code
def yX6_setRests : MethodName := ⟨RX6, "setRests", "(II)V"⟩
abbrev cX6_bestWorth : ByteArray := prog_8_method_8_code
def yX6_bestWorth : MethodName := ⟨RX6, "bestWorth", "(I)I"⟩
abbrev cX6_bestStrip : ByteArray := prog_8_method_9_code
def yX6_bestStrip : MethodName := ⟨RX6, "bestStrip", "(II)I"⟩
abbrev cX6_forgetBest : ByteArray := prog_8_method_10_code
def yX6_forgetBest : MethodName := ⟨RX6, "forgetBest", "()V"⟩
abbrev cX6_findBest : ByteArray := prog_8_method_11_code
def yX6_findBest : MethodName := ⟨RX6, "findBest", "(I)V"⟩
abbrev cX6_bestWithStrip : ByteArray := prog_8_method_12_code
def yX6_bestWithStrip : MethodName := ⟨RX6, "bestWithStrip", "(I)J"⟩
abbrev cX6_addUpGains : ByteArray := prog_8_method_13_code
def yX6_addUpGains : MethodName := ⟨RX6, "addUpGains", "(I)V"⟩
abbrev cX6_valueOn : ByteArray := prog_8_method_14_code
def yX6_valueOn : MethodName := ⟨RX6, "valueOn", "(II)J"⟩
abbrev cX6_fitsOneStrip : ByteArray := prog_8_method_15_code
def yX6_fitsOneStrip : MethodName := ⟨RX6, "fitsOneStrip", "(I)Z"⟩
abbrev cX6_canShare : ByteArray := prog_8_method_16_code
def yX6_canShare : MethodName := ⟨RX6, "canShare", "(II)Z"⟩
def RX7 : String := "PitchSquare$Tape"
def TX7 : u_T := fun k => match k with
  | 0 => ("PitchSquare$Tape", "bytes", "[I", true)
  | _ => ("PitchSquare$Tape", "count", "I", false)
def tyX7 : Nat → FieldType := fun k => match k with
  | 0 => .array .int
  | _ => .int
abbrev wsX70 : List Cond := u_ws RX7 TX7 2
theorem nmX7 : ∀ a, a < 2 → ∀ b, b < 2 → a ≠ b → (TX7 a).2.1 ≠ (TX7 b).2.1 := by decide +kernel
theorem tyX7_ok : ∀ k, k < 2 → parseFieldDescriptor (TX7 k).2.2.1 = some (tyX7 k) := by decide +kernel
abbrev cX7_init : ByteArray := prog_9_method_1_code
def yX7_init : MethodName := ⟨RX7, "<init>", "()V"⟩
abbrev cX7_hasRoomForTwenty : ByteArray := prog_9_method_2_code
def yX7_hasRoomForTwenty : MethodName := ⟨RX7, "hasRoomForTwenty", "()Z"⟩
abbrev cX7_append : ByteArray := prog_9_method_3_code
def yX7_append : MethodName := ⟨RX7, "append", "(I)V"⟩
abbrev cX7_size : ByteArray := prog_9_method_4_code
def yX7_size : MethodName := ⟨RX7, "size", "()I"⟩
abbrev cX7_clear : ByteArray := prog_9_method_5_code
def yX7_clear : MethodName := ⟨RX7, "clear", "()V"⟩
abbrev cX7_byteAt : ByteArray := prog_9_method_6_code
def yX7_byteAt : MethodName := ⟨RX7, "byteAt", "(I)I"⟩
def RX8 : String := "PitchSquare$Turf"
def TX8 : u_T := fun k => match k with
  | 0 => ("PitchSquare$Turf", "first", "I", false)
  | 1 => ("PitchSquare$Turf", "second", "I", false)
  | 2 => ("PitchSquare$Turf", "third", "I", false)
  | 3 => ("PitchSquare$Turf", "grass", "I", false)
  | 4 => ("PitchSquare$Turf", "hard", "I", false)
  | 5 => ("PitchSquare$Turf", "wear", "I", false)
  | 6 => ("PitchSquare$Turf", "works", "I", false)
  | _ => ("PitchSquare$Turf", "balls", "I", false)
def tyX8 : Nat → FieldType := fun k => match k with
  | 0 => .int
  | 1 => .int
  | 2 => .int
  | 3 => .int
  | 4 => .int
  | 5 => .int
  | 6 => .int
  | _ => .int
abbrev wsX80 : List Cond := u_ws RX8 TX8 8
theorem nmX8 : ∀ a, a < 8 → ∀ b, b < 8 → a ≠ b → (TX8 a).2.1 ≠ (TX8 b).2.1 := by decide +kernel
theorem tyX8_ok : ∀ k, k < 8 → parseFieldDescriptor (TX8 k).2.2.1 = some (tyX8 k) := by decide +kernel
abbrev cX8_init : ByteArray := prog_10_method_1_code
def yX8_init : MethodName := ⟨RX8, "<init>", "()V"⟩
abbrev cX8_setLayers : ByteArray := prog_10_method_2_code
def yX8_setLayers : MethodName := ⟨RX8, "setLayers", "(III)V"⟩
abbrev cX8_setSurface : ByteArray := prog_10_method_3_code
def yX8_setSurface : MethodName := ⟨RX8, "setSurface", "(III)V"⟩
abbrev cX8_copyFrom : ByteArray := prog_10_method_4_code
def yX8_copyFrom : MethodName := ⟨RX8, "copyFrom", "(LPitchSquare$Turf;)V"⟩
abbrev cX8_orderWorks : ByteArray := prog_10_method_5_code
def yX8_orderWorks : MethodName := ⟨RX8, "orderWorks", "(I)V"⟩
abbrev cX8_ballsToday : ByteArray := prog_10_method_6_code
def yX8_ballsToday : MethodName := ⟨RX8, "ballsToday", "()I"⟩
abbrev cX8_addBalls : ByteArray := prog_10_method_7_code
def yX8_addBalls : MethodName := ⟨RX8, "addBalls", "(I)V"⟩
abbrev cX8_endDay : ByteArray := prog_10_method_8_code
def yX8_endDay : MethodName := ⟨RX8, "endDay", "(II)V"⟩
abbrev cX8_valueOf : ByteArray := prog_10_method_9_code
def yX8_valueOf : MethodName := ⟨RX8, "valueOf", "(I)I"⟩
abbrev cX8_bounce : ByteArray := prog_10_method_10_code
def yX8_bounce : MethodName := ⟨RX8, "bounce", "()I"⟩
abbrev cX8_passDay : ByteArray := prog_10_method_11_code
def yX8_passDay : MethodName := ⟨RX8, "passDay", "(IIII)V"⟩
abbrev cX8_soak : ByteArray := prog_10_method_12_code
def yX8_soak : MethodName := ⟨RX8, "soak", "(IZ)V"⟩
abbrev cX8_seep : ByteArray := prog_10_method_13_code
def yX8_seep : MethodName := ⟨RX8, "seep", "()V"⟩
abbrev cX8_dry : ByteArray := prog_10_method_14_code
def yX8_dry : MethodName := ⟨RX8, "dry", "(I)V"⟩
abbrev cX8_harden : ByteArray := prog_10_method_15_code
def yX8_harden : MethodName := ⟨RX8, "harden", "(Z)V"⟩
abbrev cX8_grow : ByteArray := prog_10_method_16_code
def yX8_grow : MethodName := ⟨RX8, "grow", "()V"⟩
def RX9 : String := "PitchSquare$Weather"
def TX9 : u_T := fun k => match k with
  | 0 => ("PitchSquare$Weather", "rains", "[I", true)
  | _ => ("PitchSquare$Weather", "suns", "[I", true)
def tyX9 : Nat → FieldType := fun k => match k with
  | 0 => .array .int
  | _ => .array .int
abbrev wsX90 : List Cond := u_ws RX9 TX9 2
theorem nmX9 : ∀ a, a < 2 → ∀ b, b < 2 → a ≠ b → (TX9 a).2.1 ≠ (TX9 b).2.1 := by decide +kernel
theorem tyX9_ok : ∀ k, k < 2 → parseFieldDescriptor (TX9 k).2.2.1 = some (tyX9 k) := by decide +kernel
abbrev cX9_init : ByteArray := prog_11_method_1_code
def yX9_init : MethodName := ⟨RX9, "<init>", "()V"⟩
abbrev cX9_keep : ByteArray := prog_11_method_2_code
def yX9_keep : MethodName := ⟨RX9, "keep", "(III)V"⟩
abbrev cX9_rainOn : ByteArray := prog_11_method_3_code
def yX9_rainOn : MethodName := ⟨RX9, "rainOn", "(I)I"⟩
abbrev cX9_sunOn : ByteArray := prog_11_method_4_code
def yX9_sunOn : MethodName := ⟨RX9, "sunOn", "(I)I"⟩
def RX10 : String := "PitchSquare"
def TX10 : u_T := fun k => match k with
  | 0 => ("PitchSquare", "turfs", "[LPitchSquare$Turf;", true)
  | 1 => ("PitchSquare", "tryTurf", "LPitchSquare$Turf;", true)
  | 2 => ("PitchSquare", "foretoldWeather", "LPitchSquare$Weather;", true)
  | 3 => ("PitchSquare", "cameWeather", "LPitchSquare$Weather;", true)
  | 4 => ("PitchSquare", "measures", "LPitchSquare$Measures;", true)
  | 5 => ("PitchSquare", "planner", "LPitchSquare$Planner;", true)
  | 6 => ("PitchSquare", "tape", "LPitchSquare$Tape;", true)
  | 7 => ("PitchSquare", "reader", "LPitchSquare$RuleReader;", true)
  | 8 => ("PitchSquare", "season", "LPitchSquare$Season;", true)
  | 9 => ("PitchSquare", "marks", "LPitchSquare$Marks;", true)
  | 10 => ("PitchSquare", "fraction", "LPitchSquare$Fraction;", true)
  | 11 => ("PitchSquare", "ruleBook", "LPitchSquare$RuleBook;", false)
  | 12 => ("PitchSquare", "lastStatus", "I", false)
  | 13 => ("PitchSquare", "stripCount", "I", false)
  | _ => ("PitchSquare", "today", "I", false)
def tyX10 : Nat → FieldType := fun k => match k with
  | 0 => .array (.object "PitchSquare$Turf")
  | 1 => .object "PitchSquare$Turf"
  | 2 => .object "PitchSquare$Weather"
  | 3 => .object "PitchSquare$Weather"
  | 4 => .object "PitchSquare$Measures"
  | 5 => .object "PitchSquare$Planner"
  | 6 => .object "PitchSquare$Tape"
  | 7 => .object "PitchSquare$RuleReader"
  | 8 => .object "PitchSquare$Season"
  | 9 => .object "PitchSquare$Marks"
  | 10 => .object "PitchSquare$Fraction"
  | 11 => .object "PitchSquare$RuleBook"
  | 12 => .int
  | 13 => .int
  | _ => .int
abbrev wsX100 : List Cond := u_ws RX10 TX10 15
theorem nmX10 : ∀ a, a < 15 → ∀ b, b < 15 → a ≠ b → (TX10 a).2.1 ≠ (TX10 b).2.1 := by decide +kernel
theorem tyX10_ok : ∀ k, k < 15 → parseFieldDescriptor (TX10 k).2.2.1 = some (tyX10 k) := by decide +kernel
abbrev cX10_init : ByteArray := prog_1_method_1_code
def yX10_init : MethodName := ⟨RX10, "<init>", "()V"⟩
abbrev cX10_status : ByteArray := prog_1_method_2_code
def yX10_status : MethodName := ⟨RX10, "status", "()I"⟩
abbrev cX10_strip : ByteArray := prog_1_method_3_code
def yX10_strip : MethodName := ⟨RX10, "strip", "()I"⟩
abbrev cX10_set : ByteArray := prog_1_method_4_code
def yX10_set : MethodName := ⟨RX10, "set", "(IIIIIII)Z"⟩
abbrev cX10_told : ByteArray := prog_1_method_5_code
def yX10_told : MethodName := ⟨RX10, "told", "(II)I"⟩
abbrev cX10_weather : ByteArray := prog_1_method_6_code
def yX10_weather : MethodName := ⟨RX10, "weather", "(IIIZ)Z"⟩
abbrev cX10_work : ByteArray := prog_1_method_7_code
def yX10_work : MethodName := ⟨RX10, "work", "(II)Z"⟩
abbrev cX10_play : ByteArray := prog_1_method_8_code
def yX10_play : MethodName := ⟨RX10, "play", "(II)Z"⟩
abbrev cX10_step : ByteArray := prog_1_method_9_code
def yX10_step : MethodName := ⟨RX10, "step", "()I"⟩
abbrev cX10_day : ByteArray := prog_1_method_10_code
def yX10_day : MethodName := ⟨RX10, "day", "()I"⟩
abbrev cX10_measure : ByteArray := prog_1_method_11_code
def yX10_measure : MethodName := ⟨RX10, "measure", "(III)Z"⟩
abbrev cX10_reads : ByteArray := prog_1_method_12_code
def yX10_reads : MethodName := ⟨RX10, "reads", "(II)Z"⟩
abbrev cX10_plan : ByteArray := prog_1_method_13_code
def yX10_plan : MethodName := ⟨RX10, "plan", "(IIII)I"⟩
abbrev cX10_planned : ByteArray := prog_1_method_14_code
def yX10_planned : MethodName := ⟨RX10, "planned", "(I)I"⟩
abbrev cX10_feed : ByteArray := prog_1_method_15_code
def yX10_feed : MethodName := ⟨RX10, "feed", "(IIIII)I"⟩
abbrev cX10_rules : ByteArray := prog_1_method_16_code
def yX10_rules : MethodName := ⟨RX10, "rules", "(I)I"⟩
abbrev cX10_fault : ByteArray := prog_1_method_17_code
def yX10_fault : MethodName := ⟨RX10, "fault", "(I)I"⟩
abbrev cX10_rate : ByteArray := prog_1_method_18_code
def yX10_rate : MethodName := ⟨RX10, "rate", "(I)I"⟩
abbrev cX10_when : ByteArray := prog_1_method_19_code
def yX10_when : MethodName := ⟨RX10, "when", "(III)I"⟩
abbrev cX10_match : ByteArray := prog_1_method_20_code
def yX10_match : MethodName := ⟨RX10, "match", "(II)I"⟩
abbrev cX10_worth : ByteArray := prog_1_method_21_code
def yX10_worth : MethodName := ⟨RX10, "worth", "(III)Z"⟩
abbrev cX10_rests : ByteArray := prog_1_method_22_code
def yX10_rests : MethodName := ⟨RX10, "rests", "(II)Z"⟩
abbrev cX10_give : ByteArray := prog_1_method_23_code
def yX10_give : MethodName := ⟨RX10, "give", "()I"⟩
abbrev cX10_given : ByteArray := prog_1_method_24_code
def yX10_given : MethodName := ⟨RX10, "given", "(I)I"⟩
abbrev cX10_mark : ByteArray := prog_1_method_25_code
def yX10_mark : MethodName := ⟨RX10, "mark", "(III)Z"⟩
abbrev cX10_part : ByteArray := prog_1_method_26_code
def yX10_part : MethodName := ⟨RX10, "part", "(I)Z"⟩
abbrev cX10_fair : ByteArray := prog_1_method_27_code
def yX10_fair : MethodName := ⟨RX10, "fair", "(I)Z"⟩
abbrev cX10_upper : ByteArray := prog_1_method_28_code
def yX10_upper : MethodName := ⟨RX10, "upper", "()J"⟩
abbrev cX10_lower : ByteArray := prog_1_method_29_code
def yX10_lower : MethodName := ⟨RX10, "lower", "()J"⟩
abbrev cX10_answer : ByteArray := prog_1_method_30_code
def yX10_answer : MethodName := ⟨RX10, "answer", "(I)I"⟩
abbrev cX10_refuse : ByteArray := prog_1_method_31_code
def yX10_refuse : MethodName := ⟨RX10, "refuse", "(I)I"⟩
abbrev cX10_done : ByteArray := prog_1_method_32_code
def yX10_done : MethodName := ⟨RX10, "done", "()Z"⟩
abbrev cX10_deny : ByteArray := prog_1_method_33_code
def yX10_deny : MethodName := ⟨RX10, "deny", "(I)Z"⟩
abbrev cX10_hasStrip : ByteArray := prog_1_method_34_code
def yX10_hasStrip : MethodName := ⟨RX10, "hasStrip", "(I)Z"⟩
abbrev cX10_isDay : ByteArray := prog_1_method_35_code
def yX10_isDay : MethodName := ⟨RX10, "isDay", "(I)Z"⟩
abbrev cX10_within : ByteArray := prog_1_method_36_code
def yX10_within : MethodName := ⟨RX10, "within", "(III)Z"⟩
abbrev cX10_cut : ByteArray := prog_1_method_37_code
def yX10_cut : MethodName := ⟨RX10, "cut", "(II)I"⟩
def RX11 : String := "PitchSquareModel"
def TX11 : u_T := fun k => match k with
  | 0 => ("PitchSquareModel", "status", "I", false)
  | 1 => ("PitchSquareModel", "thrown", "I", false)
  | 2 => ("PitchSquareModel", "above", "J", false)
  | 3 => ("PitchSquareModel", "under", "J", false)
  | 4 => ("PitchSquareModel", "strips", "I", false)
  | 5 => ("PitchSquareModel", "day", "I", false)
  | 6 => ("PitchSquareModel", "state", "[I", true)
  | 7 => ("PitchSquareModel", "works", "[I", true)
  | 8 => ("PitchSquareModel", "balls", "[I", true)
  | 9 => ("PitchSquareModel", "rainTold", "[I", true)
  | 10 => ("PitchSquareModel", "sunTold", "[I", true)
  | 11 => ("PitchSquareModel", "rainCame", "[I", true)
  | 12 => ("PitchSquareModel", "sunCame", "[I", true)
  | 13 => ("PitchSquareModel", "now", "[I", true)
  | 14 => ("PitchSquareModel", "measures", "I", false)
  | 15 => ("PitchSquareModel", "mStrip", "[I", true)
  | 16 => ("PitchSquareModel", "mDay", "[I", true)
  | 17 => ("PitchSquareModel", "mValue", "[I", true)
  | 18 => ("PitchSquareModel", "tried", "[I", true)
  | 19 => ("PitchSquareModel", "plan", "[I", true)
  | 20 => ("PitchSquareModel", "planned", "I", false)
  | 21 => ("PitchSquareModel", "matches", "I", false)
  | 22 => ("PitchSquareModel", "rest", "I", false)
  | 23 => ("PitchSquareModel", "spared", "I", false)
  | 24 => ("PitchSquareModel", "matchDay", "[I", true)
  | 25 => ("PitchSquareModel", "rank", "[I", true)
  | 26 => ("PitchSquareModel", "worth", "[I", true)
  | 27 => ("PitchSquareModel", "laid", "[I", true)
  | 28 => ("PitchSquareModel", "best", "[I", true)
  | 29 => ("PitchSquareModel", "ahead", "[I", true)
  | 30 => ("PitchSquareModel", "marks", "I", false)
  | 31 => ("PitchSquareModel", "markOf", "[I", true)
  | 32 => ("PitchSquareModel", "markBy", "[I", true)
  | 33 => ("PitchSquareModel", "markValue", "[I", true)
  | 34 => ("PitchSquareModel", "tape", "[B", true)
  | 35 => ("PitchSquareModel", "taped", "I", false)
  | 36 => ("PitchSquareModel", "end", "I", false)
  | 37 => ("PitchSquareModel", "faultKind", "I", false)
  | 38 => ("PitchSquareModel", "faultAt", "I", false)
  | 39 => ("PitchSquareModel", "bad", "I", false)
  | 40 => ("PitchSquareModel", "badAt", "I", false)
  | 41 => ("PitchSquareModel", "sort", "I", false)
  | 42 => ("PitchSquareModel", "at", "I", false)
  | 43 => ("PitchSquareModel", "behind", "I", false)
  | 44 => ("PitchSquareModel", "number", "I", false)
  | 45 => ("PitchSquareModel", "letters", "I", false)
  | 46 => ("PitchSquareModel", "word", "J", false)
  | 47 => ("PitchSquareModel", "rules", "I", false)
  | 48 => ("PitchSquareModel", "newRules", "I", false)
  | 49 => ("PitchSquareModel", "tests", "[I", true)
  | 50 => ("PitchSquareModel", "what", "[I", true)
  | 51 => ("PitchSquareModel", "how", "[I", true)
  | 52 => ("PitchSquareModel", "than", "[I", true)
  | 53 => ("PitchSquareModel", "newTests", "[I", true)
  | 54 => ("PitchSquareModel", "newWhat", "[I", true)
  | 55 => ("PitchSquareModel", "newHow", "[I", true)
  | 56 => ("PitchSquareModel", "newThan", "[I", true)
  | _ => ("PitchSquareModel", "newName", "[J", true)
def tyX11 : Nat → FieldType := fun k => match k with
  | 0 => .int
  | 1 => .int
  | 2 => .long
  | 3 => .long
  | 4 => .int
  | 5 => .int
  | 6 => .array .int
  | 7 => .array .int
  | 8 => .array .int
  | 9 => .array .int
  | 10 => .array .int
  | 11 => .array .int
  | 12 => .array .int
  | 13 => .array .int
  | 14 => .int
  | 15 => .array .int
  | 16 => .array .int
  | 17 => .array .int
  | 18 => .array .int
  | 19 => .array .int
  | 20 => .int
  | 21 => .int
  | 22 => .int
  | 23 => .int
  | 24 => .array .int
  | 25 => .array .int
  | 26 => .array .int
  | 27 => .array .int
  | 28 => .array .int
  | 29 => .array .int
  | 30 => .int
  | 31 => .array .int
  | 32 => .array .int
  | 33 => .array .int
  | 34 => .array .byte
  | 35 => .int
  | 36 => .int
  | 37 => .int
  | 38 => .int
  | 39 => .int
  | 40 => .int
  | 41 => .int
  | 42 => .int
  | 43 => .int
  | 44 => .int
  | 45 => .int
  | 46 => .long
  | 47 => .int
  | 48 => .int
  | 49 => .array .int
  | 50 => .array .int
  | 51 => .array .int
  | 52 => .array .int
  | 53 => .array .int
  | 54 => .array .int
  | 55 => .array .int
  | 56 => .array .int
  | _ => .array .long
abbrev wsX110 : List Cond := u_ws RX11 TX11 58
theorem nmX11 : ∀ a, a < 58 → ∀ b, b < 58 → a ≠ b → (TX11 a).2.1 ≠ (TX11 b).2.1 := by decide +kernel
theorem tyX11_ok : ∀ k, k < 58 → parseFieldDescriptor (TX11 k).2.2.1 = some (tyX11 k) := by decide +kernel
abbrev cX11_init : ByteArray := prog_13_method_1_code
def yX11_init : MethodName := ⟨RX11, "<init>", "()V"⟩
abbrev cX11_status : ByteArray := prog_13_method_3_code
def yX11_status : MethodName := ⟨RX11, "status", "()I"⟩
abbrev cX11_refuse : ByteArray := prog_13_method_4_code
def yX11_refuse : MethodName := ⟨RX11, "refuse", "(I)I"⟩
abbrev cX11_no : ByteArray := prog_13_method_5_code
def yX11_no : MethodName := ⟨RX11, "no", "(I)Z"⟩
abbrev cX11_isStrip : ByteArray := prog_13_method_6_code
def yX11_isStrip : MethodName := ⟨RX11, "isStrip", "(I)Z"⟩
abbrev cX11_isDay : ByteArray := prog_13_method_7_code
def yX11_isDay : MethodName := ⟨RX11, "isDay", "(I)Z"⟩
abbrev cX11_isIn : ByteArray := prog_13_method_8_code
def yX11_isIn : MethodName := ⟨RX11, "isIn", "(II)Z"⟩
abbrev cX11_strip : ByteArray := prog_13_method_9_code
def yX11_strip : MethodName := ⟨RX11, "strip", "()I"⟩
abbrev cX11_set : ByteArray := prog_13_method_10_code
def yX11_set : MethodName := ⟨RX11, "set", "(IIIIIII)Z"⟩
abbrev cX11_begin : ByteArray := prog_13_method_11_code
def yX11_begin : MethodName := ⟨RX11, "begin", "(I)V"⟩
abbrev cX11_bounce : ByteArray := prog_13_method_12_code
def yX11_bounce : MethodName := ⟨RX11, "bounce", "()I"⟩
abbrev cX11_told : ByteArray := prog_13_method_13_code
def yX11_told : MethodName := ⟨RX11, "told", "(II)I"⟩
abbrev cX11_cut : ByteArray := prog_13_method_14_code
def yX11_cut : MethodName := ⟨RX11, "cut", "(II)I"⟩
abbrev cX11_grows : ByteArray := prog_13_method_15_code
def yX11_grows : MethodName := ⟨RX11, "grows", "(II)V"⟩
abbrev cX11_steps : ByteArray := prog_13_method_16_code
def yX11_steps : MethodName := ⟨RX11, "steps", "(IIII)V"⟩
abbrev cX11_weather : ByteArray := prog_13_method_17_code
def yX11_weather : MethodName := ⟨RX11, "weather", "(IIIZ)Z"⟩
abbrev cX11_work : ByteArray := prog_13_method_18_code
def yX11_work : MethodName := ⟨RX11, "work", "(II)Z"⟩
abbrev cX11_play : ByteArray := prog_13_method_19_code
def yX11_play : MethodName := ⟨RX11, "play", "(II)Z"⟩
abbrev cX11_step : ByteArray := prog_13_method_20_code
def yX11_step : MethodName := ⟨RX11, "step", "()I"⟩
abbrev cX11_day : ByteArray := prog_13_method_21_code
def yX11_day : MethodName := ⟨RX11, "day", "()I"⟩
abbrev cX11_measure : ByteArray := prog_13_method_22_code
def yX11_measure : MethodName := ⟨RX11, "measure", "(III)Z"⟩
abbrev cX11_many : ByteArray := prog_13_method_23_code
def yX11_many : MethodName := ⟨RX11, "many", "(II)I"⟩
abbrev cX11_sumOf : ByteArray := prog_13_method_24_code
def yX11_sumOf : MethodName := ⟨RX11, "sumOf", "(II)I"⟩
abbrev cX11_common : ByteArray := prog_13_method_25_code
def yX11_common : MethodName := ⟨RX11, "common", "(JJ)J"⟩
abbrev cX11_tells : ByteArray := prog_13_method_26_code
def yX11_tells : MethodName := ⟨RX11, "tells", "(JJ)Z"⟩
abbrev cX11_reads : ByteArray := prog_13_method_27_code
def yX11_reads : MethodName := ⟨RX11, "reads", "(II)Z"⟩
abbrev cX11_plan : ByteArray := prog_13_method_28_code
def yX11_plan : MethodName := ⟨RX11, "plan", "(IIII)I"⟩
abbrev cX11_planned : ByteArray := prog_13_method_29_code
def yX11_planned : MethodName := ⟨RX11, "planned", "(I)I"⟩
abbrev cX11_look : ByteArray := prog_13_method_30_code
def yX11_look : MethodName := ⟨RX11, "look", "(I)I"⟩
abbrev cX11_isLetter : ByteArray := prog_13_method_31_code
def yX11_isLetter : MethodName := ⟨RX11, "isLetter", "(I)Z"⟩
abbrev cX11_isDigit : ByteArray := prog_13_method_32_code
def yX11_isDigit : MethodName := ⟨RX11, "isDigit", "(I)Z"⟩
abbrev cX11_next : ByteArray := prog_13_method_33_code
def yX11_next : MethodName := ⟨RX11, "next", "()V"⟩
abbrev cX11_spelled : ByteArray := prog_13_method_34_code
def yX11_spelled : MethodName := ⟨RX11, "spelled", "(IIIIII)J"⟩
abbrev cX11_isWord : ByteArray := prog_13_method_35_code
def yX11_isWord : MethodName := ⟨RX11, "isWord", "(J)Z"⟩
abbrev cX11_isSign : ByteArray := prog_13_method_36_code
def yX11_isSign : MethodName := ⟨RX11, "isSign", "(I)Z"⟩
abbrev cX11_fail : ByteArray := prog_13_method_37_code
def yX11_fail : MethodName := ⟨RX11, "fail", "(II)V"⟩
abbrev cX11_wrong : ByteArray := prog_13_method_38_code
def yX11_wrong : MethodName := ⟨RX11, "wrong", "()V"⟩
abbrev cX11_whatOf : ByteArray := prog_13_method_39_code
def yX11_whatOf : MethodName := ⟨RX11, "whatOf", "()I"⟩
abbrev cX11_readTest : ByteArray := prog_13_method_40_code
def yX11_readTest : MethodName := ⟨RX11, "readTest", "()V"⟩
abbrev cX11_readRule : ByteArray := prog_13_method_41_code
def yX11_readRule : MethodName := ⟨RX11, "readRule", "()V"⟩
abbrev cX11_feed : ByteArray := prog_13_method_42_code
def yX11_feed : MethodName := ⟨RX11, "feed", "(IIIII)I"⟩
abbrev cX11_lay : ByteArray := prog_13_method_43_code
def yX11_lay : MethodName := ⟨RX11, "lay", "(I)V"⟩
abbrev cX11_rules : ByteArray := prog_13_method_44_code
def yX11_rules : MethodName := ⟨RX11, "rules", "(I)I"⟩
abbrev cX11_fault : ByteArray := prog_13_method_45_code
def yX11_fault : MethodName := ⟨RX11, "fault", "(I)I"⟩
abbrev cX11_rated : ByteArray := prog_13_method_46_code
def yX11_rated : MethodName := ⟨RX11, "rated", "(I)I"⟩
abbrev cX11_rate : ByteArray := prog_13_method_47_code
def yX11_rate : MethodName := ⟨RX11, "rate", "(I)I"⟩
abbrev cX11_when : ByteArray := prog_13_method_48_code
def yX11_when : MethodName := ⟨RX11, "when", "(III)I"⟩
abbrev cX11_isMatch : ByteArray := prog_13_method_49_code
def yX11_isMatch : MethodName := ⟨RX11, "isMatch", "(I)Z"⟩
abbrev cX11_match : ByteArray := prog_13_method_50_code
def yX11_match : MethodName := ⟨RX11, "match", "(II)I"⟩
abbrev cX11_worth : ByteArray := prog_13_method_51_code
def yX11_worth : MethodName := ⟨RX11, "worth", "(III)Z"⟩
abbrev cX11_rests : ByteArray := prog_13_method_52_code
def yX11_rests : MethodName := ⟨RX11, "rests", "(II)Z"⟩
abbrev cX11_canBoth : ByteArray := prog_13_method_53_code
def yX11_canBoth : MethodName := ⟨RX11, "canBoth", "(II)Z"⟩
abbrev cX11_canLay : ByteArray := prog_13_method_54_code
def yX11_canLay : MethodName := ⟨RX11, "canLay", "(II)Z"⟩
abbrev cX11_gives : ByteArray := prog_13_method_55_code
def yX11_gives : MethodName := ⟨RX11, "gives", "()I"⟩
abbrev cX11_give : ByteArray := prog_13_method_56_code
def yX11_give : MethodName := ⟨RX11, "give", "()I"⟩
abbrev cX11_given : ByteArray := prog_13_method_57_code
def yX11_given : MethodName := ⟨RX11, "given", "(I)I"⟩
abbrev cX11_mark : ByteArray := prog_13_method_58_code
def yX11_mark : MethodName := ⟨RX11, "mark", "(III)Z"⟩
abbrev cX11_manyBy : ByteArray := prog_13_method_59_code
def yX11_manyBy : MethodName := ⟨RX11, "manyBy", "(I)I"⟩
abbrev cX11_sumBy : ByteArray := prog_13_method_60_code
def yX11_sumBy : MethodName := ⟨RX11, "sumBy", "(I)I"⟩
abbrev cX11_part : ByteArray := prog_13_method_61_code
def yX11_part : MethodName := ⟨RX11, "part", "(I)Z"⟩
abbrev cX11_fair : ByteArray := prog_13_method_62_code
def yX11_fair : MethodName := ⟨RX11, "fair", "(I)Z"⟩
abbrev cX11_upper : ByteArray := prog_13_method_63_code
def yX11_upper : MethodName := ⟨RX11, "upper", "()J"⟩
abbrev cX11_lower : ByteArray := prog_13_method_64_code
def yX11_lower : MethodName := ⟨RX11, "lower", "()J"⟩
def RL : String := "PitchSquareLaw"
abbrev cL_law : ByteArray := code
def yL_law : MethodName := ⟨RL, "law", "([I)Z"⟩
end
section
abbrev am_E : Type := Instr × Nat × Nat × Nat × Nat
def am_c0 : List am_E := [(.aload_n 0, 0, 0, 0, 0), (.invokespecial 1, 1, 1000, 0, 2), (.aload_n 0, 4, 0, 0, 0), (.lconst 0, 5, 0, 0, 0), (.putfield 7, 6, 0, 0, 1), (.aload_n 0, 9, 0, 0, 0), (.lconst 1, 10, 0, 0, 0), (.putfield 13, 11, 0, 1, 1), (.return_, 14, 0, 0, 0)]
def am_c1 : List am_E := [(.lload_n 1, 0, 0, 0, 0), (.invokestatic 16, 1, 1004, 1, 1), (.lload_n 3, 4, 0, 0, 0), (.invokestatic 22, 5, 4, 2, 1), (.lstore 5, 8, 0, 0, 0), (.lload_n 3, 10, 0, 0, 0), (.lconst 0, 11, 0, 0, 0), (.lcmp, 12, 0, 0, 0), (.ifCond .le 26, 13, 23, 0, 0), (.lload 5, 16, 0, 0, 0), (.lconst 0, 18, 0, 0, 0), (.lcmp, 19, 0, 0, 0), (.ifCond .le 19, 20, 23, 0, 0), (.aload_n 0, 23, 0, 0, 0), (.lload_n 1, 24, 0, 0, 0), (.lload 5, 25, 0, 0, 0), (.ldiv, 27, 0, 0, 0), (.putfield 7, 28, 0, 0, 1), (.aload_n 0, 31, 0, 0, 0), (.lload_n 3, 32, 0, 0, 0), (.lload 5, 33, 0, 0, 0), (.ldiv, 35, 0, 0, 0), (.putfield 13, 36, 0, 1, 1), (.return_, 39, 0, 0, 0)]
def am_c2 : List am_E := [(.aload_n 0, 0, 0, 0, 0), (.getfield 7, 1, 0, 0, 1), (.lreturn, 4, 0, 0, 0)]
def am_c3 : List am_E := [(.aload_n 0, 0, 0, 0, 0), (.getfield 13, 1, 0, 1, 1), (.lreturn, 4, 0, 0, 0)]
def am_c4 : List am_E := [(.lload_n 0, 0, 0, 0, 0), (.lstore 4, 1, 0, 0, 0), (.lload_n 2, 3, 0, 0, 0), (.lstore 6, 4, 0, 0, 0), (.iconst 0, 6, 0, 0, 0), (.istore 8, 7, 0, 0, 0), (.iload 8, 9, 0, 0, 0), (.bipush 100, 11, 0, 0, 0), (.if_icmp .ge 31, 13, 23, 0, 0), (.lload 6, 16, 0, 0, 0), (.lconst 0, 18, 0, 0, 0), (.lcmp, 19, 0, 0, 0), (.ifCond .eq 24, 20, 23, 0, 0), (.lload 4, 23, 0, 0, 0), (.lload 6, 25, 0, 0, 0), (.lrem, 27, 0, 0, 0), (.lstore 9, 28, 0, 0, 0), (.lload 6, 30, 0, 0, 0), (.lstore 4, 32, 0, 0, 0), (.lload 9, 34, 0, 0, 0), (.lstore 6, 36, 0, 0, 0), (.iinc 8 1, 38, 0, 0, 0), (.goto (-32), 41, 6, 0, 0), (.lload 4, 44, 0, 0, 0), (.lreturn, 46, 0, 0, 0)]
def am_c5 : List am_E := [(.aload_n 0, 0, 0, 0, 0), (.invokespecial 3, 1, 1000, 0, 2), (.aload_n 0, 4, 0, 0, 0), (.bipush 8, 5, 0, 0, 0), (.iconst 3, 7, 0, 0, 0), (.multianewarray 9 2, 8, 0, 0, 0), (.putfield 11, 12, 1, 0, 2), (.aload_n 0, 15, 0, 0, 0), (.bipush 8, 16, 0, 0, 0), (.iconst 3, 18, 0, 0, 0), (.multianewarray 9 2, 19, 0, 0, 0), (.putfield 16, 23, 1, 1, 2), (.aload_n 0, 26, 0, 0, 0), (.iconst 3, 27, 0, 0, 0), (.newarray .long, 28, 0, 0, 0), (.putfield 19, 30, 1, 2, 2), (.aload_n 0, 33, 0, 0, 0), (.iconst 3, 34, 0, 0, 0), (.newarray .long, 35, 0, 0, 0), (.putfield 23, 37, 1, 3, 2), (.aload_n 0, 40, 0, 0, 0), (.lconst 0, 41, 0, 0, 0), (.putfield 26, 42, 1, 4, 1), (.aload_n 0, 45, 0, 0, 0), (.lconst 0, 46, 0, 0, 0), (.putfield 30, 47, 1, 5, 1), (.return_, 50, 0, 0, 0)]
def am_c6 : List am_E := [(.aload_n 0, 0, 0, 0, 0), (.getfield 26, 1, 1, 4, 1), (.ldc2_w 33, 4, 4, 0, 0), (.lcmp, 7, 0, 0, 0), (.ifCond .lt 7, 8, 7, 0, 0), (.iconst 1, 11, 0, 0, 0), (.goto 4, 12, 8, 0, 0), (.iconst 0, 15, 0, 0, 0), (.ireturn, 16, 1, 0, 0)]
def am_c7 : List am_E := [(.iload_n 1, 0, 0, 0, 0), (.iconst 0, 1, 0, 0, 0), (.bipush 7, 2, 0, 0, 0), (.invokestatic 35, 4, 139, 3, 4), (.ifCond .eq 78, 7, 60, 0, 0), (.iload_n 2, 10, 0, 0, 0), (.iconst 0, 11, 0, 0, 0), (.iconst 2, 12, 0, 0, 0), (.invokestatic 35, 13, 139, 3, 4), (.ifCond .eq 69, 16, 60, 0, 0), (.aload_n 0, 19, 0, 0, 0), (.getfield 11, 20, 1, 0, 2), (.iload_n 1, 23, 0, 0, 0), (.aaload, 24, 0, 0, 0), (.iload_n 2, 25, 0, 0, 0), (.dup2, 26, 0, 0, 0), (.iaload, 27, 0, 0, 0), (.iconst 1, 28, 0, 0, 0), (.iadd, 29, 0, 0, 0), (.iastore, 30, 0, 0, 0), (.aload_n 0, 31, 0, 0, 0), (.getfield 16, 32, 1, 1, 2), (.iload_n 1, 35, 0, 0, 0), (.aaload, 36, 0, 0, 0), (.iload_n 2, 37, 0, 0, 0), (.dup2, 38, 0, 0, 0), (.iaload, 39, 0, 0, 0), (.iload_n 3, 40, 0, 0, 0), (.iadd, 41, 0, 0, 0), (.iastore, 42, 0, 0, 0), (.aload_n 0, 43, 0, 0, 0), (.getfield 19, 44, 1, 2, 2), (.iload_n 2, 47, 0, 0, 0), (.dup2, 48, 0, 0, 0), (.laload, 49, 0, 0, 0), (.lconst 1, 50, 0, 0, 0), (.ladd, 51, 0, 0, 0), (.lastore, 52, 0, 0, 0), (.aload_n 0, 53, 0, 0, 0), (.getfield 23, 54, 1, 3, 2), (.iload_n 2, 57, 0, 0, 0), (.dup2, 58, 0, 0, 0), (.laload, 59, 0, 0, 0), (.iload_n 3, 60, 0, 0, 0), (.i2l, 61, 0, 0, 0), (.ladd, 62, 0, 0, 0), (.lastore, 63, 0, 0, 0), (.aload_n 0, 64, 0, 0, 0), (.dup, 65, 0, 0, 0), (.getfield 26, 66, 1, 4, 1), (.lconst 1, 69, 0, 0, 0), (.ladd, 70, 0, 0, 0), (.putfield 26, 71, 1, 4, 1), (.aload_n 0, 74, 0, 0, 0), (.dup, 75, 0, 0, 0), (.getfield 30, 76, 1, 5, 1), (.iload_n 3, 79, 0, 0, 0), (.i2l, 80, 0, 0, 0), (.ladd, 81, 0, 0, 0), (.putfield 30, 82, 1, 5, 1), (.return_, 85, 0, 0, 0)]
def am_c8 : List am_E := [(.iload_n 2, 0, 0, 0, 0), (.iconst 0, 1, 0, 0, 0), (.iconst 2, 2, 0, 0, 0), (.invokestatic 35, 3, 139, 3, 4), (.ifCond .eq 14, 6, 12, 0, 0), (.aload_n 0, 9, 0, 0, 0), (.getfield 19, 10, 1, 2, 2), (.iload_n 2, 13, 0, 0, 0), (.laload, 14, 0, 0, 0), (.lconst 0, 15, 0, 0, 0), (.lcmp, 16, 0, 0, 0), (.ifCond .ne 10, 17, 17, 0, 0), (.aload_n 1, 20, 0, 0, 0), (.lconst 0, 21, 0, 0, 0), (.lconst 1, 22, 0, 0, 0), (.invokevirtual 39, 23, 1, 2, 0), (.return_, 26, 0, 0, 0), (.aload_n 0, 27, 0, 0, 0), (.getfield 19, 28, 1, 2, 2), (.iload_n 2, 31, 0, 0, 0), (.laload, 32, 0, 0, 0), (.lstore_n 3, 33, 0, 0, 0), (.aload_n 1, 34, 0, 0, 0), (.aload_n 0, 35, 0, 0, 0), (.getfield 23, 36, 1, 3, 2), (.iload_n 2, 39, 0, 0, 0), (.laload, 40, 0, 0, 0), (.aload_n 0, 41, 0, 0, 0), (.getfield 26, 42, 1, 4, 1), (.lmul, 45, 0, 0, 0), (.aload_n 0, 46, 0, 0, 0), (.getfield 30, 47, 1, 5, 1), (.lload_n 3, 50, 0, 0, 0), (.lmul, 51, 0, 0, 0), (.lsub, 52, 0, 0, 0), (.lload_n 3, 53, 0, 0, 0), (.aload_n 0, 54, 0, 0, 0), (.getfield 26, 55, 1, 4, 1), (.lmul, 58, 0, 0, 0), (.invokevirtual 39, 59, 1, 2, 0), (.return_, 62, 0, 0, 0)]
def am_c9 : List am_E := [(.iload_n 2, 0, 0, 0, 0), (.iconst 0, 1, 0, 0, 0), (.bipush 7, 2, 0, 0, 0), (.invokestatic 35, 4, 139, 3, 4), (.ifCond .ne 5, 7, 7, 0, 0), (.iconst 0, 10, 0, 0, 0), (.ireturn, 11, 1, 0, 0), (.aload_n 0, 12, 0, 0, 0), (.getfield 26, 13, 1, 4, 1), (.lstore_n 3, 16, 0, 0, 0), (.iconst 0, 17, 0, 0, 0), (.istore 5, 18, 0, 0, 0), (.iload 5, 20, 0, 0, 0), (.iconst 3, 22, 0, 0, 0), (.if_icmp .ge 23, 23, 26, 0, 0), (.lload_n 3, 26, 0, 0, 0), (.lconst 1, 27, 0, 0, 0), (.aload_n 0, 28, 0, 0, 0), (.getfield 19, 29, 1, 2, 2), (.iload 5, 32, 0, 0, 0), (.laload, 34, 0, 0, 0), (.invokestatic 45, 35, 1005, 2, 1), (.lmul, 38, 0, 0, 0), (.lstore_n 3, 39, 0, 0, 0), (.iinc 5 1, 40, 0, 0, 0), (.goto (-23), 43, 12, 0, 0), (.lconst 0, 46, 0, 0, 0), (.lstore 5, 47, 0, 0, 0), (.lconst 0, 49, 0, 0, 0), (.lstore 7, 50, 0, 0, 0), (.iconst 0, 52, 0, 0, 0), (.istore 9, 53, 0, 0, 0), (.iload 9, 55, 0, 0, 0), (.iconst 3, 57, 0, 0, 0), (.if_icmp .ge 50, 58, 65, 0, 0), (.lload 5, 61, 0, 0, 0), (.aload_n 0, 63, 0, 0, 0), (.getfield 11, 64, 1, 0, 2), (.iload_n 2, 67, 0, 0, 0), (.aaload, 68, 0, 0, 0), (.iload 9, 69, 0, 0, 0), (.iaload, 71, 0, 0, 0), (.i2l, 72, 0, 0, 0), (.ladd, 73, 0, 0, 0), (.lstore 5, 74, 0, 0, 0), (.lload 7, 76, 0, 0, 0), (.aload_n 0, 78, 0, 0, 0), (.getfield 16, 79, 1, 1, 2), (.iload_n 2, 82, 0, 0, 0), (.aaload, 83, 0, 0, 0), (.iload 9, 84, 0, 0, 0), (.iaload, 86, 0, 0, 0), (.i2l, 87, 0, 0, 0), (.lload_n 3, 88, 0, 0, 0), (.lmul, 89, 0, 0, 0), (.aload_n 0, 90, 0, 0, 0), (.iload_n 2, 91, 0, 0, 0), (.iload 9, 92, 0, 0, 0), (.lload_n 3, 94, 0, 0, 0), (.invokevirtual 51, 95, 10, 3, 0), (.lsub, 98, 0, 0, 0), (.ladd, 99, 0, 0, 0), (.lstore 7, 100, 0, 0, 0), (.iinc 9 1, 102, 0, 0, 0), (.goto (-50), 105, 32, 0, 0), (.lload 5, 108, 0, 0, 0), (.lconst 0, 110, 0, 0, 0), (.lcmp, 111, 0, 0, 0), (.ifCond .ne 5, 112, 71, 0, 0), (.iconst 0, 115, 0, 0, 0), (.ireturn, 116, 1, 0, 0), (.aload_n 1, 117, 0, 0, 0), (.lload 7, 118, 0, 0, 0), (.lload_n 3, 120, 0, 0, 0), (.lload 5, 121, 0, 0, 0), (.lmul, 123, 0, 0, 0), (.invokevirtual 39, 124, 1, 2, 0), (.iconst 1, 127, 0, 0, 0), (.ireturn, 128, 1, 0, 0)]
def am_c10 : List am_E := [(.aload_n 0, 0, 0, 0, 0), (.getfield 19, 1, 1, 2, 2), (.iload_n 2, 4, 0, 0, 0), (.laload, 5, 0, 0, 0), (.lstore 5, 6, 0, 0, 0), (.lload 5, 8, 0, 0, 0), (.lconst 0, 10, 0, 0, 0), (.lcmp, 11, 0, 0, 0), (.ifCond .eq 12, 12, 14, 0, 0), (.aload_n 0, 15, 0, 0, 0), (.getfield 26, 16, 1, 4, 1), (.lconst 0, 19, 0, 0, 0), (.lcmp, 20, 0, 0, 0), (.ifCond .ne 5, 21, 16, 0, 0), (.lconst 0, 24, 0, 0, 0), (.lreturn, 25, 0, 0, 0), (.aload_n 0, 26, 0, 0, 0), (.getfield 23, 27, 1, 3, 2), (.iload_n 2, 30, 0, 0, 0), (.laload, 31, 0, 0, 0), (.lload_n 3, 32, 0, 0, 0), (.lload 5, 33, 0, 0, 0), (.ldiv, 35, 0, 0, 0), (.lmul, 36, 0, 0, 0), (.aload_n 0, 37, 0, 0, 0), (.getfield 30, 38, 1, 5, 1), (.lload_n 3, 41, 0, 0, 0), (.aload_n 0, 42, 0, 0, 0), (.getfield 26, 43, 1, 4, 1), (.ldiv, 46, 0, 0, 0), (.lmul, 47, 0, 0, 0), (.lsub, 48, 0, 0, 0), (.lstore 7, 49, 0, 0, 0), (.aload_n 0, 51, 0, 0, 0), (.getfield 11, 52, 1, 0, 2), (.iload_n 1, 55, 0, 0, 0), (.aaload, 56, 0, 0, 0), (.iload_n 2, 57, 0, 0, 0), (.iaload, 58, 0, 0, 0), (.i2l, 59, 0, 0, 0), (.lload 7, 60, 0, 0, 0), (.lmul, 62, 0, 0, 0), (.lreturn, 63, 0, 0, 0)]
def am_c11 : List am_E := [(.aload_n 0, 0, 0, 0, 0), (.invokespecial 3, 1, 1000, 0, 2), (.aload_n 0, 4, 0, 0, 0), (.sipush 200, 5, 0, 0, 0), (.newarray .int, 8, 0, 0, 0), (.putfield 11, 10, 2, 0, 2), (.aload_n 0, 13, 0, 0, 0), (.sipush 200, 14, 0, 0, 0), (.newarray .int, 17, 0, 0, 0), (.putfield 15, 19, 2, 1, 2), (.aload_n 0, 22, 0, 0, 0), (.sipush 200, 23, 0, 0, 0), (.newarray .int, 26, 0, 0, 0), (.putfield 18, 28, 2, 2, 2), (.aload_n 0, 31, 0, 0, 0), (.iconst 0, 32, 0, 0, 0), (.putfield 21, 33, 2, 3, 0), (.return_, 36, 0, 0, 0)]
def am_c12 : List am_E := [(.aload_n 0, 0, 0, 0, 0), (.getfield 21, 1, 2, 3, 0), (.sipush 200, 4, 0, 0, 0), (.if_icmp .lt 7, 7, 6, 0, 0), (.iconst 1, 10, 0, 0, 0), (.goto 4, 11, 7, 0, 0), (.iconst 0, 14, 0, 0, 0), (.ireturn, 15, 1, 0, 0)]
def am_c13 : List am_E := [(.aload_n 0, 0, 0, 0, 0), (.invokevirtual 25, 1, 12, 0, 0), (.ifCond .ne 43, 4, 27, 0, 0), (.aload_n 0, 7, 0, 0, 0), (.getfield 11, 8, 2, 0, 2), (.aload_n 0, 11, 0, 0, 0), (.getfield 21, 12, 2, 3, 0), (.iload_n 1, 15, 0, 0, 0), (.iastore, 16, 0, 0, 0), (.aload_n 0, 17, 0, 0, 0), (.getfield 15, 18, 2, 1, 2), (.aload_n 0, 21, 0, 0, 0), (.getfield 21, 22, 2, 3, 0), (.iload_n 2, 25, 0, 0, 0), (.iastore, 26, 0, 0, 0), (.aload_n 0, 27, 0, 0, 0), (.getfield 18, 28, 2, 2, 2), (.aload_n 0, 31, 0, 0, 0), (.getfield 21, 32, 2, 3, 0), (.iload_n 3, 35, 0, 0, 0), (.iastore, 36, 0, 0, 0), (.aload_n 0, 37, 0, 0, 0), (.dup, 38, 0, 0, 0), (.getfield 21, 39, 2, 3, 0), (.iconst 1, 42, 0, 0, 0), (.iadd, 43, 0, 0, 0), (.putfield 21, 44, 2, 3, 0), (.return_, 47, 0, 0, 0)]
def am_c14 : List am_E := [(.aload_n 0, 0, 0, 0, 0), (.iload_n 2, 1, 0, 0, 0), (.iconst (-1), 2, 0, 0, 0), (.iload_n 3, 3, 0, 0, 0), (.invokevirtual 29, 4, 15, 3, 0), (.istore 4, 7, 0, 0, 0), (.aload_n 0, 9, 0, 0, 0), (.iload_n 2, 10, 0, 0, 0), (.iconst 1, 11, 0, 0, 0), (.iload_n 3, 12, 0, 0, 0), (.invokevirtual 29, 13, 15, 3, 0), (.istore 5, 16, 0, 0, 0), (.iload 4, 18, 0, 0, 0), (.iconst (-1), 20, 0, 0, 0), (.if_icmp .ne 11, 21, 20, 0, 0), (.iload 5, 24, 0, 0, 0), (.iconst (-1), 26, 0, 0, 0), (.if_icmp .ne 5, 27, 20, 0, 0), (.iconst 0, 30, 0, 0, 0), (.ireturn, 31, 1, 0, 0), (.iload 4, 32, 0, 0, 0), (.iconst (-1), 34, 0, 0, 0), (.if_icmp .eq 16, 35, 29, 0, 0), (.iload 5, 38, 0, 0, 0), (.iconst (-1), 40, 0, 0, 0), (.if_icmp .eq 10, 41, 29, 0, 0), (.iload 4, 44, 0, 0, 0), (.iload 5, 46, 0, 0, 0), (.if_icmp .ne 38, 48, 48, 0, 0), (.iload 4, 51, 0, 0, 0), (.iconst (-1), 53, 0, 0, 0), (.if_icmp .ne 8, 54, 34, 0, 0), (.iload 5, 57, 0, 0, 0), (.goto 5, 59, 35, 0, 0), (.iload 4, 62, 0, 0, 0), (.istore 6, 64, 0, 0, 0), (.aload_n 1, 66, 0, 0, 0), (.aload_n 0, 67, 0, 0, 0), (.iload 6, 68, 0, 0, 0), (.iload_n 3, 70, 0, 0, 0), (.invokevirtual 33, 71, 17, 2, 0), (.aload_n 0, 74, 0, 0, 0), (.iload 6, 75, 0, 0, 0), (.iload_n 3, 77, 0, 0, 0), (.invokevirtual 37, 78, 16, 2, 0), (.invokevirtual 40, 81, 1, 2, 0), (.iconst 1, 84, 0, 0, 0), (.ireturn, 85, 1, 0, 0), (.aload_n 0, 86, 0, 0, 0), (.iload 4, 87, 0, 0, 0), (.iload_n 3, 89, 0, 0, 0), (.invokevirtual 37, 90, 16, 2, 0), (.lstore 6, 93, 0, 0, 0), (.aload_n 0, 95, 0, 0, 0), (.iload 5, 96, 0, 0, 0), (.iload_n 3, 98, 0, 0, 0), (.invokevirtual 37, 99, 16, 2, 0), (.lstore 8, 102, 0, 0, 0), (.aload_n 0, 104, 0, 0, 0), (.iload 4, 105, 0, 0, 0), (.iload_n 3, 107, 0, 0, 0), (.invokevirtual 33, 108, 17, 2, 0), (.lload 8, 111, 0, 0, 0), (.lmul, 113, 0, 0, 0), (.iload 5, 114, 0, 0, 0), (.iload_n 2, 116, 0, 0, 0), (.isub, 117, 0, 0, 0), (.i2l, 118, 0, 0, 0), (.lmul, 119, 0, 0, 0), (.lstore 10, 120, 0, 0, 0), (.aload_n 0, 122, 0, 0, 0), (.iload 5, 123, 0, 0, 0), (.iload_n 3, 125, 0, 0, 0), (.invokevirtual 33, 126, 17, 2, 0), (.lload 6, 129, 0, 0, 0), (.lmul, 131, 0, 0, 0), (.iload_n 2, 132, 0, 0, 0), (.iload 4, 133, 0, 0, 0), (.isub, 135, 0, 0, 0), (.i2l, 136, 0, 0, 0), (.lmul, 137, 0, 0, 0), (.lstore 12, 138, 0, 0, 0), (.aload_n 1, 140, 0, 0, 0), (.lload 10, 141, 0, 0, 0), (.lload 12, 143, 0, 0, 0), (.ladd, 145, 0, 0, 0), (.lload 6, 146, 0, 0, 0), (.lload 8, 148, 0, 0, 0), (.lmul, 150, 0, 0, 0), (.iload 5, 151, 0, 0, 0), (.iload 4, 153, 0, 0, 0), (.isub, 155, 0, 0, 0), (.i2l, 156, 0, 0, 0), (.lmul, 157, 0, 0, 0), (.invokevirtual 40, 158, 1, 2, 0), (.iconst 1, 161, 0, 0, 0), (.ireturn, 162, 1, 0, 0)]
def am_c15 : List am_E := [(.iload_n 1, 0, 0, 0, 0), (.istore 4, 1, 0, 0, 0), (.iconst 0, 3, 0, 0, 0), (.istore 5, 4, 0, 0, 0), (.iload 5, 6, 0, 0, 0), (.bipush 8, 8, 0, 0, 0), (.if_icmp .ge 30, 10, 22, 0, 0), (.aload_n 0, 13, 0, 0, 0), (.iload 4, 14, 0, 0, 0), (.iload_n 3, 16, 0, 0, 0), (.invokevirtual 37, 17, 16, 2, 0), (.lconst 0, 20, 0, 0, 0), (.lcmp, 21, 0, 0, 0), (.ifCond .le 6, 22, 16, 0, 0), (.iload 4, 25, 0, 0, 0), (.ireturn, 27, 0, 0, 0), (.iload 4, 28, 0, 0, 0), (.iload_n 2, 30, 0, 0, 0), (.iadd, 31, 0, 0, 0), (.istore 4, 32, 0, 0, 0), (.iinc 5 1, 34, 0, 0, 0), (.goto (-31), 37, 4, 0, 0), (.iconst (-1), 40, 0, 0, 0), (.ireturn, 41, 0, 0, 0)]
def am_c16 : List am_E := [(.lconst 0, 0, 0, 0, 0), (.lstore_n 3, 1, 0, 0, 0), (.iconst 0, 2, 0, 0, 0), (.istore 5, 3, 0, 0, 0), (.iload 5, 5, 0, 0, 0), (.aload_n 0, 7, 0, 0, 0), (.getfield 21, 8, 2, 3, 0), (.if_icmp .ge 35, 11, 26, 0, 0), (.aload_n 0, 14, 0, 0, 0), (.getfield 11, 15, 2, 0, 2), (.iload 5, 18, 0, 0, 0), (.iaload, 20, 0, 0, 0), (.iload_n 1, 21, 0, 0, 0), (.if_icmp .ne 18, 22, 24, 0, 0), (.aload_n 0, 25, 0, 0, 0), (.getfield 15, 26, 2, 1, 2), (.iload 5, 29, 0, 0, 0), (.iaload, 31, 0, 0, 0), (.iload_n 2, 32, 0, 0, 0), (.if_icmp .ne 7, 33, 24, 0, 0), (.lload_n 3, 36, 0, 0, 0), (.lconst 1, 37, 0, 0, 0), (.ladd, 38, 0, 0, 0), (.lstore_n 3, 39, 0, 0, 0), (.iinc 5 1, 40, 0, 0, 0), (.goto (-38), 43, 4, 0, 0), (.lload_n 3, 46, 0, 0, 0), (.lreturn, 47, 0, 0, 0)]
def am_c17 : List am_E := [(.lconst 0, 0, 0, 0, 0), (.lstore_n 3, 1, 0, 0, 0), (.iconst 0, 2, 0, 0, 0), (.istore 5, 3, 0, 0, 0), (.iload 5, 5, 0, 0, 0), (.aload_n 0, 7, 0, 0, 0), (.getfield 21, 8, 2, 3, 0), (.if_icmp .ge 42, 11, 30, 0, 0), (.aload_n 0, 14, 0, 0, 0), (.getfield 11, 15, 2, 0, 2), (.iload 5, 18, 0, 0, 0), (.iaload, 20, 0, 0, 0), (.iload_n 1, 21, 0, 0, 0), (.if_icmp .ne 25, 22, 28, 0, 0), (.aload_n 0, 25, 0, 0, 0), (.getfield 15, 26, 2, 1, 2), (.iload 5, 29, 0, 0, 0), (.iaload, 31, 0, 0, 0), (.iload_n 2, 32, 0, 0, 0), (.if_icmp .ne 14, 33, 28, 0, 0), (.lload_n 3, 36, 0, 0, 0), (.aload_n 0, 37, 0, 0, 0), (.getfield 18, 38, 2, 2, 2), (.iload 5, 41, 0, 0, 0), (.iaload, 43, 0, 0, 0), (.i2l, 44, 0, 0, 0), (.ladd, 45, 0, 0, 0), (.lstore_n 3, 46, 0, 0, 0), (.iinc 5 1, 47, 0, 0, 0), (.goto (-45), 50, 4, 0, 0), (.lload_n 3, 53, 0, 0, 0), (.lreturn, 54, 0, 0, 0)]
def am_c18 : List am_E := [(.aload_n 0, 0, 0, 0, 0), (.invokespecial 3, 1, 1000, 0, 2), (.aload_n 0, 4, 0, 0, 0), (.bipush 7, 5, 0, 0, 0), (.anewarray 9, 7, 8, 0, 0), (.putfield 11, 10, 3, 0, 2), (.aload_n 0, 13, 0, 0, 0), (.bipush 6, 14, 0, 0, 0), (.newarray .int, 16, 0, 0, 0), (.putfield 17, 18, 3, 1, 2), (.aload_n 0, 21, 0, 0, 0), (.bipush 6, 22, 0, 0, 0), (.newarray .int, 24, 0, 0, 0), (.putfield 21, 26, 3, 2, 2), (.aload_n 0, 29, 0, 0, 0), (.bipush 6, 30, 0, 0, 0), (.newarray .int, 32, 0, 0, 0), (.putfield 24, 34, 3, 3, 2), (.aload_n 0, 37, 0, 0, 0), (.bipush 6, 38, 0, 0, 0), (.newarray .int, 40, 0, 0, 0), (.putfield 27, 42, 3, 4, 2), (.aload_n 0, 45, 0, 0, 0), (.iconst 0, 46, 0, 0, 0), (.putfield 30, 47, 3, 5, 0), (.aload_n 0, 50, 0, 0, 0), (.iconst (-1), 51, 0, 0, 0), (.putfield 34, 52, 3, 6, 0), (.aload_n 0, 55, 0, 0, 0), (.iconst 0, 56, 0, 0, 0), (.putfield 37, 57, 3, 7, 0), (.iconst 0, 60, 0, 0, 0), (.istore_n 1, 61, 0, 0, 0), (.iload_n 1, 62, 0, 0, 0), (.bipush 6, 63, 0, 0, 0), (.if_icmp .gt 22, 65, 45, 0, 0), (.aload_n 0, 68, 0, 0, 0), (.getfield 11, 69, 3, 0, 2), (.iload_n 1, 72, 0, 0, 0), (.new 9, 73, 8, 0, 0), (.dup, 76, 0, 0, 0), (.invokespecial 40, 77, 84, 0, 5), (.aastore, 80, 0, 0, 0), (.iinc 1 1, 81, 0, 0, 0), (.goto (-22), 84, 33, 0, 0), (.return_, 87, 0, 0, 0)]
def am_c19 : List am_E := [(.aload_n 0, 0, 0, 0, 0), (.getfield 11, 1, 3, 0, 2), (.iconst 0, 4, 0, 0, 0), (.aaload, 5, 0, 0, 0), (.aload_n 1, 6, 0, 0, 0), (.invokevirtual 41, 7, 87, 1, 0), (.aload_n 0, 10, 0, 0, 0), (.iload 4, 11, 0, 0, 0), (.bipush 6, 13, 0, 0, 0), (.invokestatic 45, 15, 140, 2, 4), (.putfield 30, 18, 3, 5, 0), (.iconst 0, 21, 0, 0, 0), (.istore 5, 22, 0, 0, 0), (.iload 5, 24, 0, 0, 0), (.aload_n 0, 26, 0, 0, 0), (.getfield 30, 27, 3, 5, 0), (.if_icmp .ge 39, 30, 37, 0, 0), (.aload_n 0, 33, 0, 0, 0), (.getfield 24, 34, 3, 3, 2), (.iload 5, 37, 0, 0, 0), (.aload_n 2, 39, 0, 0, 0), (.iload_n 3, 40, 0, 0, 0), (.iload 5, 41, 0, 0, 0), (.iadd, 43, 0, 0, 0), (.invokevirtual 49, 44, 102, 1, 0), (.iastore, 47, 0, 0, 0), (.aload_n 0, 48, 0, 0, 0), (.getfield 27, 49, 3, 4, 2), (.iload 5, 52, 0, 0, 0), (.aload_n 2, 54, 0, 0, 0), (.iload_n 3, 55, 0, 0, 0), (.iload 5, 56, 0, 0, 0), (.iadd, 58, 0, 0, 0), (.invokevirtual 55, 59, 103, 1, 0), (.iastore, 62, 0, 0, 0), (.iinc 5 1, 63, 0, 0, 0), (.goto (-42), 66, 13, 0, 0), (.return_, 69, 0, 0, 0)]
def am_c20 : List am_E := [(.aload_n 0, 0, 0, 0, 0), (.iconst (-1), 1, 0, 0, 0), (.putfield 34, 2, 3, 6, 0), (.aload_n 0, 5, 0, 0, 0), (.iconst 0, 6, 0, 0, 0), (.putfield 37, 7, 3, 7, 0), (.aload_n 0, 10, 0, 0, 0), (.iconst 0, 11, 0, 0, 0), (.iload_n 1, 12, 0, 0, 0), (.iload_n 2, 13, 0, 0, 0), (.iconst 0, 14, 0, 0, 0), (.invokevirtual 58, 15, 22, 4, 0), (.aload_n 0, 18, 0, 0, 0), (.getfield 34, 19, 3, 6, 0), (.ireturn, 22, 0, 0, 0)]
def am_c21 : List am_E := [(.iload_n 1, 0, 0, 0, 0), (.ifCond .lt 20, 1, 11, 0, 0), (.iload_n 1, 4, 0, 0, 0), (.aload_n 0, 5, 0, 0, 0), (.getfield 30, 6, 3, 5, 0), (.if_icmp .ge 12, 9, 11, 0, 0), (.aload_n 0, 12, 0, 0, 0), (.getfield 21, 13, 3, 2, 2), (.iload_n 1, 16, 0, 0, 0), (.iaload, 17, 0, 0, 0), (.goto 4, 18, 12, 0, 0), (.iconst (-1), 21, 0, 0, 0), (.ireturn, 22, 0, 0, 0)]
def am_c22 : List am_E := [(.iload_n 1, 0, 0, 0, 0), (.aload_n 0, 1, 0, 0, 0), (.getfield 30, 2, 3, 5, 0), (.if_icmp .ge 9, 5, 7, 0, 0), (.iload_n 1, 8, 0, 0, 0), (.bipush 6, 9, 0, 0, 0), (.if_icmp .lt 10, 11, 11, 0, 0), (.aload_n 0, 14, 0, 0, 0), (.iload 4, 15, 0, 0, 0), (.invokevirtual 62, 17, 23, 1, 0), (.return_, 20, 0, 0, 0), (.iconst 0, 21, 0, 0, 0), (.istore 5, 22, 0, 0, 0), (.iload 5, 24, 0, 0, 0), (.iconst 3, 26, 0, 0, 0), (.if_icmp .gt 109, 27, 83, 0, 0), (.iload 5, 30, 0, 0, 0), (.iconst 1, 32, 0, 0, 0), (.iand, 33, 0, 0, 0), (.istore 6, 34, 0, 0, 0), (.iload 5, 36, 0, 0, 0), (.iconst 2, 38, 0, 0, 0), (.iand, 39, 0, 0, 0), (.iconst 2, 40, 0, 0, 0), (.idiv, 41, 0, 0, 0), (.istore 7, 42, 0, 0, 0), (.iload 6, 44, 0, 0, 0), (.iload_n 2, 46, 0, 0, 0), (.if_icmp .gt 83, 47, 81, 0, 0), (.iload 7, 50, 0, 0, 0), (.iload_n 3, 52, 0, 0, 0), (.if_icmp .gt 77, 53, 81, 0, 0), (.aload_n 0, 56, 0, 0, 0), (.getfield 17, 57, 3, 1, 2), (.iload_n 1, 60, 0, 0, 0), (.iload 5, 61, 0, 0, 0), (.iastore, 63, 0, 0, 0), (.aload_n 0, 64, 0, 0, 0), (.getfield 11, 65, 3, 0, 2), (.iload_n 1, 68, 0, 0, 0), (.iconst 1, 69, 0, 0, 0), (.iadd, 70, 0, 0, 0), (.aaload, 71, 0, 0, 0), (.aload_n 0, 72, 0, 0, 0), (.getfield 11, 73, 3, 0, 2), (.iload_n 1, 76, 0, 0, 0), (.aaload, 77, 0, 0, 0), (.invokevirtual 41, 78, 87, 1, 0), (.aload_n 0, 81, 0, 0, 0), (.getfield 11, 82, 3, 0, 2), (.iload_n 1, 85, 0, 0, 0), (.iconst 1, 86, 0, 0, 0), (.iadd, 87, 0, 0, 0), (.aaload, 88, 0, 0, 0), (.aload_n 0, 89, 0, 0, 0), (.getfield 24, 90, 3, 3, 2), (.iload_n 1, 93, 0, 0, 0), (.iaload, 94, 0, 0, 0), (.aload_n 0, 95, 0, 0, 0), (.getfield 27, 96, 3, 4, 2), (.iload_n 1, 99, 0, 0, 0), (.iaload, 100, 0, 0, 0), (.iload 5, 101, 0, 0, 0), (.iconst 0, 103, 0, 0, 0), (.invokevirtual 66, 104, 94, 4, 0), (.aload_n 0, 107, 0, 0, 0), (.iload_n 1, 108, 0, 0, 0), (.iconst 1, 109, 0, 0, 0), (.iadd, 110, 0, 0, 0), (.iload_n 2, 111, 0, 0, 0), (.iload 6, 112, 0, 0, 0), (.isub, 114, 0, 0, 0), (.iload_n 3, 115, 0, 0, 0), (.iload 7, 116, 0, 0, 0), (.isub, 118, 0, 0, 0), (.iload 4, 119, 0, 0, 0), (.iload 6, 121, 0, 0, 0), (.iadd, 123, 0, 0, 0), (.iload 7, 124, 0, 0, 0), (.iadd, 126, 0, 0, 0), (.invokevirtual 58, 127, 22, 4, 0), (.iinc 5 1, 130, 0, 0, 0), (.goto (-109), 133, 13, 0, 0), (.return_, 136, 0, 0, 0)]
def am_c23 : List am_E := [(.aload_n 0, 0, 0, 0, 0), (.getfield 11, 1, 3, 0, 2), (.aload_n 0, 4, 0, 0, 0), (.getfield 30, 5, 3, 5, 0), (.aaload, 8, 0, 0, 0), (.invokevirtual 69, 9, 93, 0, 0), (.istore_n 2, 12, 0, 0, 0), (.iload_n 2, 13, 0, 0, 0), (.aload_n 0, 14, 0, 0, 0), (.getfield 34, 15, 3, 6, 0), (.if_icmp .gt 19, 18, 19, 0, 0), (.iload_n 2, 21, 0, 0, 0), (.aload_n 0, 22, 0, 0, 0), (.getfield 34, 23, 3, 6, 0), (.if_icmp .ne 49, 26, 41, 0, 0), (.iload_n 1, 29, 0, 0, 0), (.aload_n 0, 30, 0, 0, 0), (.getfield 37, 31, 3, 7, 0), (.if_icmp .ge 41, 34, 41, 0, 0), (.aload_n 0, 37, 0, 0, 0), (.iload_n 2, 38, 0, 0, 0), (.putfield 34, 39, 3, 6, 0), (.aload_n 0, 42, 0, 0, 0), (.iload_n 1, 43, 0, 0, 0), (.putfield 37, 44, 3, 7, 0), (.iconst 0, 47, 0, 0, 0), (.istore_n 3, 48, 0, 0, 0), (.iload_n 3, 49, 0, 0, 0), (.aload_n 0, 50, 0, 0, 0), (.getfield 30, 51, 3, 5, 0), (.if_icmp .ge 21, 54, 41, 0, 0), (.aload_n 0, 57, 0, 0, 0), (.getfield 21, 58, 3, 2, 2), (.iload_n 3, 61, 0, 0, 0), (.aload_n 0, 62, 0, 0, 0), (.getfield 17, 63, 3, 1, 2), (.iload_n 3, 66, 0, 0, 0), (.iaload, 67, 0, 0, 0), (.iastore, 68, 0, 0, 0), (.iinc 3 1, 69, 0, 0, 0), (.goto (-23), 72, 27, 0, 0), (.return_, 75, 0, 0, 0)]
def am_c24 : List am_E := [(.aload_n 0, 0, 0, 0, 0), (.invokespecial 3, 1, 1000, 0, 2), (.aload_n 0, 4, 0, 0, 0), (.bipush 8, 5, 0, 0, 0), (.newarray .int, 7, 0, 0, 0), (.putfield 11, 9, 4, 0, 2), (.aload_n 0, 12, 0, 0, 0), (.bipush 8, 13, 0, 0, 0), (.bipush 6, 15, 0, 0, 0), (.multianewarray 15 2, 17, 0, 0, 0), (.putfield 17, 21, 4, 1, 2), (.aload_n 0, 24, 0, 0, 0), (.bipush 8, 25, 0, 0, 0), (.bipush 6, 27, 0, 0, 0), (.multianewarray 15 2, 29, 0, 0, 0), (.putfield 20, 33, 4, 2, 2), (.aload_n 0, 36, 0, 0, 0), (.bipush 8, 37, 0, 0, 0), (.bipush 6, 39, 0, 0, 0), (.multianewarray 15 2, 41, 0, 0, 0), (.putfield 23, 45, 4, 3, 2), (.aload_n 0, 48, 0, 0, 0), (.iconst 0, 49, 0, 0, 0), (.putfield 26, 50, 4, 4, 0), (.return_, 53, 0, 0, 0)]
def am_c25 : List am_E := [(.aload_n 0, 0, 0, 0, 0), (.iconst 0, 1, 0, 0, 0), (.putfield 26, 2, 4, 4, 0), (.return_, 5, 0, 0, 0)]
def am_c26 : List am_E := [(.aload_n 0, 0, 0, 0, 0), (.getfield 26, 1, 4, 4, 0), (.ireturn, 4, 0, 0, 0)]
def am_c27 : List am_E := [(.aload_n 0, 0, 0, 0, 0), (.getfield 26, 1, 4, 4, 0), (.bipush 8, 4, 0, 0, 0), (.if_icmp .lt 7, 6, 6, 0, 0), (.iconst 1, 9, 0, 0, 0), (.goto 4, 10, 7, 0, 0), (.iconst 0, 13, 0, 0, 0), (.ireturn, 14, 1, 0, 0)]
def am_c28 : List am_E := [(.aload_n 0, 0, 0, 0, 0), (.getfield 26, 1, 4, 4, 0), (.ifCond .le 23, 4, 14, 0, 0), (.aload_n 0, 7, 0, 0, 0), (.getfield 11, 8, 4, 0, 2), (.aload_n 0, 11, 0, 0, 0), (.getfield 26, 12, 4, 4, 0), (.iconst 1, 15, 0, 0, 0), (.isub, 16, 0, 0, 0), (.iaload, 17, 0, 0, 0), (.bipush 6, 18, 0, 0, 0), (.if_icmp .lt 7, 20, 14, 0, 0), (.iconst 1, 23, 0, 0, 0), (.goto 4, 24, 15, 0, 0), (.iconst 0, 27, 0, 0, 0), (.ireturn, 28, 1, 0, 0)]
def am_c29 : List am_E := [(.aload_n 0, 0, 0, 0, 0), (.invokevirtual 30, 1, 27, 0, 0), (.ifCond .ne 23, 4, 15, 0, 0), (.aload_n 0, 7, 0, 0, 0), (.getfield 11, 8, 4, 0, 2), (.aload_n 0, 11, 0, 0, 0), (.getfield 26, 12, 4, 4, 0), (.iconst 0, 15, 0, 0, 0), (.iastore, 16, 0, 0, 0), (.aload_n 0, 17, 0, 0, 0), (.dup, 18, 0, 0, 0), (.getfield 26, 19, 4, 4, 0), (.iconst 1, 22, 0, 0, 0), (.iadd, 23, 0, 0, 0), (.putfield 26, 24, 4, 4, 0), (.return_, 27, 0, 0, 0)]
def am_c30 : List am_E := [(.aload_n 0, 0, 0, 0, 0), (.getfield 26, 1, 4, 4, 0), (.ifCond .le 71, 4, 45, 0, 0), (.aload_n 0, 7, 0, 0, 0), (.invokevirtual 34, 8, 28, 0, 0), (.ifCond .ne 64, 11, 45, 0, 0), (.aload_n 0, 14, 0, 0, 0), (.getfield 26, 15, 4, 4, 0), (.iconst 1, 18, 0, 0, 0), (.isub, 19, 0, 0, 0), (.istore 4, 20, 0, 0, 0), (.aload_n 0, 22, 0, 0, 0), (.getfield 11, 23, 4, 0, 2), (.iload 4, 26, 0, 0, 0), (.iaload, 28, 0, 0, 0), (.istore 5, 29, 0, 0, 0), (.aload_n 0, 31, 0, 0, 0), (.getfield 17, 32, 4, 1, 2), (.iload 4, 35, 0, 0, 0), (.aaload, 37, 0, 0, 0), (.iload 5, 38, 0, 0, 0), (.iload_n 1, 40, 0, 0, 0), (.iastore, 41, 0, 0, 0), (.aload_n 0, 42, 0, 0, 0), (.getfield 20, 43, 4, 2, 2), (.iload 4, 46, 0, 0, 0), (.aaload, 48, 0, 0, 0), (.iload 5, 49, 0, 0, 0), (.iload_n 2, 51, 0, 0, 0), (.iastore, 52, 0, 0, 0), (.aload_n 0, 53, 0, 0, 0), (.getfield 23, 54, 4, 3, 2), (.iload 4, 57, 0, 0, 0), (.aaload, 59, 0, 0, 0), (.iload 5, 60, 0, 0, 0), (.iload_n 3, 62, 0, 0, 0), (.iastore, 63, 0, 0, 0), (.aload_n 0, 64, 0, 0, 0), (.getfield 11, 65, 4, 0, 2), (.iload 4, 68, 0, 0, 0), (.dup2, 70, 0, 0, 0), (.iaload, 71, 0, 0, 0), (.iconst 1, 72, 0, 0, 0), (.iadd, 73, 0, 0, 0), (.iastore, 74, 0, 0, 0), (.return_, 75, 0, 0, 0)]
def am_c31 : List am_E := [(.iconst 0, 0, 0, 0, 0), (.istore_n 3, 1, 0, 0, 0), (.iload_n 3, 2, 0, 0, 0), (.aload_n 0, 3, 0, 0, 0), (.getfield 26, 4, 4, 4, 0), (.if_icmp .ge 21, 7, 16, 0, 0), (.aload_n 0, 10, 0, 0, 0), (.iload_n 3, 11, 0, 0, 0), (.aload_n 1, 12, 0, 0, 0), (.iload_n 2, 13, 0, 0, 0), (.invokevirtual 37, 14, 32, 3, 0), (.ifCond .eq 5, 17, 14, 0, 0), (.iload_n 3, 20, 0, 0, 0), (.ireturn, 21, 0, 0, 0), (.iinc 3 1, 22, 0, 0, 0), (.goto (-23), 25, 2, 0, 0), (.iconst (-1), 28, 0, 0, 0), (.ireturn, 29, 0, 0, 0)]
def am_c32 : List am_E := [(.iconst 0, 0, 0, 0, 0), (.istore 4, 1, 0, 0, 0), (.iload 4, 3, 0, 0, 0), (.aload_n 0, 5, 0, 0, 0), (.getfield 11, 6, 4, 0, 2), (.iload_n 1, 9, 0, 0, 0), (.iaload, 10, 0, 0, 0), (.if_icmp .ge 67, 11, 43, 0, 0), (.aload_n 0, 14, 0, 0, 0), (.getfield 17, 15, 4, 1, 2), (.iload_n 1, 18, 0, 0, 0), (.aaload, 19, 0, 0, 0), (.iload 4, 20, 0, 0, 0), (.iaload, 22, 0, 0, 0), (.istore 5, 23, 0, 0, 0), (.iload 5, 25, 0, 0, 0), (.bipush 7, 27, 0, 0, 0), (.if_icmp .ne 7, 29, 20, 0, 0), (.iload_n 3, 32, 0, 0, 0), (.goto 9, 33, 23, 0, 0), (.aload_n 2, 36, 0, 0, 0), (.iload 5, 37, 0, 0, 0), (.invokevirtual 41, 39, 92, 1, 0), (.istore 6, 42, 0, 0, 0), (.iload 6, 44, 0, 0, 0), (.aload_n 0, 46, 0, 0, 0), (.getfield 20, 47, 4, 2, 2), (.iload_n 1, 50, 0, 0, 0), (.aaload, 51, 0, 0, 0), (.iload 4, 52, 0, 0, 0), (.iaload, 54, 0, 0, 0), (.aload_n 0, 55, 0, 0, 0), (.getfield 23, 56, 4, 3, 2), (.iload_n 1, 59, 0, 0, 0), (.aaload, 60, 0, 0, 0), (.iload 4, 61, 0, 0, 0), (.iaload, 63, 0, 0, 0), (.invokestatic 47, 64, 33, 3, 1), (.ifCond .ne 5, 67, 41, 0, 0), (.iconst 0, 70, 0, 0, 0), (.ireturn, 71, 1, 0, 0), (.iinc 4 1, 72, 0, 0, 0), (.goto (-72), 75, 2, 0, 0), (.iconst 1, 78, 0, 0, 0), (.ireturn, 79, 1, 0, 0)]
def am_c33 : List am_E := [(.iload_n 1, 0, 0, 0, 0), (.bipush 60, 1, 0, 0, 0), (.if_icmp .ne 14, 3, 10, 0, 0), (.iload_n 0, 6, 0, 0, 0), (.iload_n 2, 7, 0, 0, 0), (.if_icmp .ge 7, 8, 8, 0, 0), (.iconst 1, 11, 0, 0, 0), (.goto 4, 12, 9, 0, 0), (.iconst 0, 15, 0, 0, 0), (.ireturn, 16, 1, 0, 0), (.iload_n 1, 17, 0, 0, 0), (.bipush 62, 18, 0, 0, 0), (.if_icmp .ne 16, 20, 20, 0, 0), (.iload_n 0, 23, 0, 0, 0), (.iload_n 2, 24, 0, 0, 0), (.if_icmp .le 7, 25, 18, 0, 0), (.iconst 1, 28, 0, 0, 0), (.goto 17, 29, 26, 0, 0), (.iconst 0, 32, 0, 0, 0), (.goto 13, 33, 26, 0, 0), (.iload_n 0, 36, 0, 0, 0), (.iload_n 2, 37, 0, 0, 0), (.if_icmp .ne 7, 38, 25, 0, 0), (.iconst 1, 41, 0, 0, 0), (.goto 4, 42, 26, 0, 0), (.iconst 0, 45, 0, 0, 0), (.ireturn, 46, 1, 0, 0)]
def am_c34 : List am_E := [(.aload_n 0, 0, 0, 0, 0), (.invokespecial 3, 1, 1000, 0, 2), (.aload_n 0, 4, 0, 0, 0), (.bipush 8, 5, 0, 0, 0), (.newarray .int, 7, 0, 0, 0), (.putfield 11, 9, 5, 0, 2), (.aload_n 0, 12, 0, 0, 0), (.bipush 8, 13, 0, 0, 0), (.newarray .int, 15, 0, 0, 0), (.putfield 17, 17, 5, 1, 2), (.aload_n 0, 20, 0, 0, 0), (.new 9, 21, 4, 0, 0), (.dup, 24, 0, 0, 0), (.invokespecial 20, 25, 24, 0, 5), (.putfield 21, 28, 5, 3, 2), (.aload_n 0, 31, 0, 0, 0), (.iconst 0, 32, 0, 0, 0), (.putfield 25, 33, 5, 4, 0), (.aload_n 0, 36, 0, 0, 0), (.iconst 0, 37, 0, 0, 0), (.putfield 29, 38, 5, 5, 0), (.aload_n 0, 41, 0, 0, 0), (.iconst 0, 42, 0, 0, 0), (.putfield 32, 43, 5, 6, 0), (.aload_n 0, 46, 0, 0, 0), (.iconst 0, 47, 0, 0, 0), (.putfield 35, 48, 5, 7, 0), (.aload_n 0, 51, 0, 0, 0), (.iconst 0, 52, 0, 0, 0), (.putfield 38, 53, 5, 8, 0), (.aload_n 0, 56, 0, 0, 0), (.iconst 0, 57, 0, 0, 0), (.putfield 41, 58, 5, 9, 0), (.aload_n 0, 61, 0, 0, 0), (.iconst 0, 62, 0, 0, 0), (.putfield 44, 63, 5, 10, 0), (.aload_n 0, 66, 0, 0, 0), (.iconst (-1), 67, 0, 0, 0), (.putfield 47, 68, 5, 11, 0), (.aload_n 0, 71, 0, 0, 0), (.iconst (-1), 72, 0, 0, 0), (.putfield 50, 73, 5, 12, 0), (.aload_n 0, 76, 0, 0, 0), (.aload_n 1, 77, 0, 0, 0), (.putfield 53, 78, 5, 2, 2), (.return_, 81, 0, 0, 0)]
def am_c35 : List am_E := [(.aload_n 0, 0, 0, 0, 0), (.getfield 47, 1, 5, 11, 0), (.ireturn, 4, 0, 0, 0)]
def am_c36 : List am_E := [(.aload_n 0, 0, 0, 0, 0), (.getfield 50, 1, 5, 12, 0), (.ireturn, 4, 0, 0, 0)]
def am_c37 : List am_E := [(.aload_n 0, 0, 0, 0, 0), (.getfield 21, 1, 5, 3, 2), (.astore_n 2, 4, 0, 0, 0), (.aload_n 0, 5, 0, 0, 0), (.aload_n 1, 6, 0, 0, 0), (.putfield 21, 7, 5, 3, 2), (.aload_n 2, 10, 0, 0, 0), (.areturn, 11, 0, 0, 0)]
def am_c38 : List am_E := [(.aload_n 0, 0, 0, 0, 0), (.iload_n 1, 1, 0, 0, 0), (.putfield 25, 2, 5, 4, 0), (.aload_n 0, 5, 0, 0, 0), (.getfield 21, 6, 5, 3, 2), (.invokevirtual 57, 9, 25, 0, 0), (.aload_n 0, 12, 0, 0, 0), (.iconst 0, 13, 0, 0, 0), (.putfield 29, 14, 5, 5, 0), (.aload_n 0, 17, 0, 0, 0), (.iconst 0, 18, 0, 0, 0), (.putfield 38, 19, 5, 8, 0), (.aload_n 0, 22, 0, 0, 0), (.iconst 0, 23, 0, 0, 0), (.putfield 47, 24, 5, 11, 0), (.aload_n 0, 27, 0, 0, 0), (.iconst (-1), 28, 0, 0, 0), (.putfield 50, 29, 5, 12, 0), (.iconst 0, 32, 0, 0, 0), (.istore_n 2, 33, 0, 0, 0), (.iload_n 2, 34, 0, 0, 0), (.sipush 400, 35, 0, 0, 0), (.if_icmp .gt 27, 38, 33, 0, 0), (.aload_n 0, 41, 0, 0, 0), (.getfield 47, 42, 5, 11, 0), (.ifCond .ne 20, 45, 33, 0, 0), (.aload_n 0, 48, 0, 0, 0), (.invokevirtual 62, 49, 41, 0, 0), (.ifCond .eq 13, 52, 33, 0, 0), (.aload_n 0, 55, 0, 0, 0), (.invokevirtual 66, 56, 42, 0, 0), (.iinc 2 1, 59, 0, 0, 0), (.goto (-28), 62, 20, 0, 0), (.aload_n 0, 65, 0, 0, 0), (.getfield 47, 66, 5, 11, 0), (.ifCond .ne 19, 69, 44, 0, 0), (.aload_n 0, 72, 0, 0, 0), (.getfield 38, 73, 5, 8, 0), (.ifCond .eq 12, 76, 44, 0, 0), (.aload_n 0, 79, 0, 0, 0), (.iconst 2, 80, 0, 0, 0), (.aload_n 0, 81, 0, 0, 0), (.getfield 25, 82, 5, 4, 0), (.invokevirtual 69, 85, 39, 2, 0), (.aload_n 0, 88, 0, 0, 0), (.getfield 47, 89, 5, 11, 0), (.ifCond .ne 7, 92, 49, 0, 0), (.iconst 1, 95, 0, 0, 0), (.goto 4, 96, 50, 0, 0), (.iconst 0, 99, 0, 0, 0), (.ireturn, 100, 1, 0, 0)]
def am_c39 : List am_E := [(.aload_n 0, 0, 0, 0, 0), (.iload_n 1, 1, 0, 0, 0), (.putfield 47, 2, 5, 11, 0), (.aload_n 0, 5, 0, 0, 0), (.iload_n 2, 6, 0, 0, 0), (.putfield 50, 7, 5, 12, 0), (.return_, 10, 0, 0, 0)]
def am_c40 : List am_E := [(.aload_n 0, 0, 0, 0, 0), (.iload_n 1, 1, 0, 0, 0), (.aload_n 0, 2, 0, 0, 0), (.getfield 32, 3, 5, 6, 0), (.invokevirtual 69, 6, 39, 2, 0), (.return_, 9, 0, 0, 0)]
def am_c41 : List am_E := [(.aload_n 0, 0, 0, 0, 0), (.getfield 29, 1, 5, 5, 0), (.aload_n 0, 4, 0, 0, 0), (.getfield 25, 5, 5, 4, 0), (.if_icmp .ge 26, 8, 16, 0, 0), (.aload_n 0, 11, 0, 0, 0), (.invokevirtual 73, 12, 56, 0, 0), (.invokestatic 77, 15, 58, 1, 1), (.ifCond .eq 16, 18, 16, 0, 0), (.aload_n 0, 21, 0, 0, 0), (.dup, 22, 0, 0, 0), (.getfield 29, 23, 5, 5, 0), (.iconst 1, 26, 0, 0, 0), (.iadd, 27, 0, 0, 0), (.putfield 29, 28, 5, 5, 0), (.goto (-31), 31, 0, 0, 0), (.aload_n 0, 34, 0, 0, 0), (.getfield 29, 35, 5, 5, 0), (.aload_n 0, 38, 0, 0, 0), (.getfield 25, 39, 5, 4, 0), (.if_icmp .lt 5, 42, 23, 0, 0), (.iconst 0, 45, 0, 0, 0), (.ireturn, 46, 1, 0, 0), (.aload_n 0, 47, 0, 0, 0), (.aload_n 0, 48, 0, 0, 0), (.getfield 29, 49, 5, 5, 0), (.putfield 32, 52, 5, 6, 0), (.aload_n 0, 55, 0, 0, 0), (.invokevirtual 73, 56, 56, 0, 0), (.istore_n 1, 59, 0, 0, 0), (.aload_n 0, 60, 0, 0, 0), (.dup, 61, 0, 0, 0), (.getfield 29, 62, 5, 5, 0), (.iconst 1, 65, 0, 0, 0), (.iadd, 66, 0, 0, 0), (.putfield 29, 67, 5, 5, 0), (.iload_n 1, 70, 0, 0, 0), (.invokestatic 81, 71, 59, 1, 1), (.ifCond .eq 42, 74, 58, 0, 0), (.aload_n 0, 77, 0, 0, 0), (.iconst 1, 78, 0, 0, 0), (.putfield 35, 79, 5, 7, 0), (.aload_n 0, 82, 0, 0, 0), (.getfield 29, 83, 5, 5, 0), (.aload_n 0, 86, 0, 0, 0), (.getfield 25, 87, 5, 4, 0), (.if_icmp .ge 103, 90, 95, 0, 0), (.aload_n 0, 93, 0, 0, 0), (.invokevirtual 73, 94, 56, 0, 0), (.invokestatic 81, 97, 59, 1, 1), (.ifCond .eq 93, 100, 95, 0, 0), (.aload_n 0, 103, 0, 0, 0), (.dup, 104, 0, 0, 0), (.getfield 29, 105, 5, 5, 0), (.iconst 1, 108, 0, 0, 0), (.iadd, 109, 0, 0, 0), (.putfield 29, 110, 5, 5, 0), (.goto (-31), 113, 42, 0, 0), (.iload_n 1, 116, 0, 0, 0), (.invokestatic 84, 117, 60, 1, 1), (.ifCond .eq 57, 120, 87, 0, 0), (.aload_n 0, 123, 0, 0, 0), (.getfield 29, 124, 5, 5, 0), (.aload_n 0, 127, 0, 0, 0), (.getfield 25, 128, 5, 4, 0), (.if_icmp .ge 26, 131, 77, 0, 0), (.aload_n 0, 134, 0, 0, 0), (.invokevirtual 73, 135, 56, 0, 0), (.invokestatic 84, 138, 60, 1, 1), (.ifCond .eq 16, 141, 77, 0, 0), (.aload_n 0, 144, 0, 0, 0), (.dup, 145, 0, 0, 0), (.getfield 29, 146, 5, 5, 0), (.iconst 1, 149, 0, 0, 0), (.iadd, 150, 0, 0, 0), (.putfield 29, 151, 5, 5, 0), (.goto (-31), 154, 61, 0, 0), (.aload_n 0, 157, 0, 0, 0), (.aload_n 0, 158, 0, 0, 0), (.invokevirtual 87, 159, 52, 0, 0), (.iconst 3, 162, 0, 0, 0), (.if_icmp .gt 7, 163, 84, 0, 0), (.iconst 2, 166, 0, 0, 0), (.goto 4, 167, 85, 0, 0), (.iconst 0, 170, 0, 0, 0), (.putfield 35, 171, 5, 7, 0), (.goto 19, 174, 95, 0, 0), (.aload_n 0, 177, 0, 0, 0), (.iload_n 1, 178, 0, 0, 0), (.invokestatic 90, 179, 61, 1, 1), (.ifCond .eq 7, 182, 93, 0, 0), (.iload_n 1, 185, 0, 0, 0), (.goto 4, 186, 94, 0, 0), (.iconst 0, 189, 0, 0, 0), (.putfield 35, 190, 5, 7, 0), (.iconst 1, 193, 0, 0, 0), (.ireturn, 194, 1, 0, 0)]
def am_c42 : List am_E := [(.aload_n 0, 0, 0, 0, 0), (.getfield 35, 1, 5, 7, 0), (.ifCond .ne 9, 4, 7, 0, 0), (.aload_n 0, 7, 0, 0, 0), (.iconst 1, 8, 0, 0, 0), (.invokevirtual 93, 9, 40, 1, 0), (.return_, 12, 0, 0, 0), (.aload_n 0, 13, 0, 0, 0), (.getfield 38, 14, 5, 8, 0), (.tableswitch 70 0 4 #[35, 42, 49, 56, 63], 17, 0, 35, 0), (.aload_n 0, 52, 0, 0, 0), (.invokevirtual 97, 53, 43, 0, 0), (.goto 35, 56, 27, 0, 0), (.aload_n 0, 59, 0, 0, 0), (.invokevirtual 100, 60, 44, 0, 0), (.goto 28, 63, 27, 0, 0), (.aload_n 0, 66, 0, 0, 0), (.invokevirtual 103, 67, 45, 0, 0), (.goto 21, 70, 27, 0, 0), (.aload_n 0, 73, 0, 0, 0), (.invokevirtual 106, 74, 46, 0, 0), (.goto 14, 77, 27, 0, 0), (.aload_n 0, 80, 0, 0, 0), (.invokevirtual 109, 81, 47, 0, 0), (.goto 7, 84, 27, 0, 0), (.aload_n 0, 87, 0, 0, 0), (.invokevirtual 112, 88, 48, 0, 0), (.return_, 91, 0, 0, 0)]
def am_c43 : List am_E := [(.aload_n 0, 0, 0, 0, 0), (.getfield 35, 1, 5, 7, 0), (.iconst 1, 4, 0, 0, 0), (.if_icmp .ne 12, 5, 8, 0, 0), (.aload_n 0, 8, 0, 0, 0), (.invokevirtual 87, 9, 52, 0, 0), (.bipush 8, 12, 0, 0, 0), (.if_icmp .le 11, 14, 12, 0, 0), (.aload_n 0, 17, 0, 0, 0), (.iconst 2, 18, 0, 0, 0), (.invokevirtual 93, 19, 40, 1, 0), (.goto 52, 22, 35, 0, 0), (.aload_n 0, 25, 0, 0, 0), (.getfield 21, 26, 5, 3, 2), (.invokevirtual 115, 29, 27, 0, 0), (.ifCond .eq 11, 32, 20, 0, 0), (.aload_n 0, 35, 0, 0, 0), (.iconst 3, 36, 0, 0, 0), (.invokevirtual 93, 37, 40, 1, 0), (.goto 34, 40, 35, 0, 0), (.aload_n 0, 43, 0, 0, 0), (.invokevirtual 118, 44, 50, 0, 0), (.ifCond .eq 11, 47, 27, 0, 0), (.aload_n 0, 50, 0, 0, 0), (.iconst 4, 51, 0, 0, 0), (.invokevirtual 93, 52, 40, 1, 0), (.goto 19, 55, 35, 0, 0), (.aload_n 0, 58, 0, 0, 0), (.invokevirtual 121, 59, 49, 0, 0), (.aload_n 0, 62, 0, 0, 0), (.getfield 21, 63, 5, 3, 2), (.invokevirtual 124, 66, 29, 0, 0), (.aload_n 0, 69, 0, 0, 0), (.iconst 1, 70, 0, 0, 0), (.putfield 38, 71, 5, 8, 0), (.return_, 74, 0, 0, 0)]
def am_c44 : List am_E := [(.aload_n 0, 0, 0, 0, 0), (.ldc 127, 1, 0, 0, 0), (.invokevirtual 129, 3, 53, 1, 0), (.ifCond .eq 11, 6, 8, 0, 0), (.aload_n 0, 9, 0, 0, 0), (.iconst 2, 10, 0, 0, 0), (.putfield 38, 11, 5, 8, 0), (.goto 8, 14, 11, 0, 0), (.aload_n 0, 17, 0, 0, 0), (.iconst 2, 18, 0, 0, 0), (.invokevirtual 93, 19, 40, 1, 0), (.return_, 22, 0, 0, 0)]
def am_c45 : List am_E := [(.aload_n 0, 0, 0, 0, 0), (.invokevirtual 133, 1, 54, 0, 0), (.istore_n 1, 4, 0, 0, 0), (.iload_n 1, 5, 0, 0, 0), (.iconst (-1), 6, 0, 0, 0), (.if_icmp .ne 11, 7, 10, 0, 0), (.aload_n 0, 10, 0, 0, 0), (.iconst 2, 11, 0, 0, 0), (.invokevirtual 93, 12, 40, 1, 0), (.goto 31, 15, 24, 0, 0), (.aload_n 0, 18, 0, 0, 0), (.getfield 21, 19, 5, 3, 2), (.invokevirtual 136, 22, 28, 0, 0), (.ifCond .eq 11, 25, 18, 0, 0), (.aload_n 0, 28, 0, 0, 0), (.iconst 3, 29, 0, 0, 0), (.invokevirtual 93, 30, 40, 1, 0), (.goto 13, 33, 24, 0, 0), (.aload_n 0, 36, 0, 0, 0), (.iload_n 1, 37, 0, 0, 0), (.putfield 41, 38, 5, 9, 0), (.aload_n 0, 41, 0, 0, 0), (.iconst 3, 42, 0, 0, 0), (.putfield 38, 43, 5, 8, 0), (.return_, 46, 0, 0, 0)]
def am_c46 : List am_E := [(.aload_n 0, 0, 0, 0, 0), (.getfield 35, 1, 5, 7, 0), (.bipush 60, 4, 0, 0, 0), (.if_icmp .eq 21, 6, 12, 0, 0), (.aload_n 0, 9, 0, 0, 0), (.getfield 35, 10, 5, 7, 0), (.bipush 62, 13, 0, 0, 0), (.if_icmp .eq 12, 15, 12, 0, 0), (.aload_n 0, 18, 0, 0, 0), (.getfield 35, 19, 5, 7, 0), (.bipush 61, 22, 0, 0, 0), (.if_icmp .ne 19, 24, 20, 0, 0), (.aload_n 0, 27, 0, 0, 0), (.aload_n 0, 28, 0, 0, 0), (.getfield 35, 29, 5, 7, 0), (.putfield 44, 32, 5, 10, 0), (.aload_n 0, 35, 0, 0, 0), (.iconst 4, 36, 0, 0, 0), (.putfield 38, 37, 5, 8, 0), (.goto 8, 40, 23, 0, 0), (.aload_n 0, 43, 0, 0, 0), (.iconst 2, 44, 0, 0, 0), (.invokevirtual 93, 45, 40, 1, 0), (.return_, 48, 0, 0, 0)]
def am_c47 : List am_E := [(.aload_n 0, 0, 0, 0, 0), (.getfield 35, 1, 5, 7, 0), (.iconst 2, 4, 0, 0, 0), (.if_icmp .ne 30, 5, 17, 0, 0), (.aload_n 0, 8, 0, 0, 0), (.getfield 21, 9, 5, 3, 2), (.aload_n 0, 12, 0, 0, 0), (.getfield 41, 13, 5, 9, 0), (.aload_n 0, 16, 0, 0, 0), (.getfield 44, 17, 5, 10, 0), (.aload_n 0, 20, 0, 0, 0), (.invokevirtual 139, 21, 55, 0, 0), (.invokevirtual 142, 24, 30, 3, 0), (.aload_n 0, 27, 0, 0, 0), (.iconst 5, 28, 0, 0, 0), (.putfield 38, 29, 5, 8, 0), (.goto 8, 32, 20, 0, 0), (.aload_n 0, 35, 0, 0, 0), (.iconst 2, 36, 0, 0, 0), (.invokevirtual 93, 37, 40, 1, 0), (.return_, 40, 0, 0, 0)]
def am_c48 : List am_E := [(.aload_n 0, 0, 0, 0, 0), (.getfield 35, 1, 5, 7, 0), (.bipush 59, 4, 0, 0, 0), (.if_icmp .ne 11, 6, 8, 0, 0), (.aload_n 0, 9, 0, 0, 0), (.iconst 0, 10, 0, 0, 0), (.putfield 38, 11, 5, 8, 0), (.goto 25, 14, 19, 0, 0), (.aload_n 0, 17, 0, 0, 0), (.ldc 146, 18, 9, 0, 0), (.invokevirtual 129, 20, 53, 1, 0), (.ifCond .eq 11, 23, 16, 0, 0), (.aload_n 0, 26, 0, 0, 0), (.iconst 2, 27, 0, 0, 0), (.putfield 38, 28, 5, 8, 0), (.goto 8, 31, 19, 0, 0), (.aload_n 0, 34, 0, 0, 0), (.iconst 2, 35, 0, 0, 0), (.invokevirtual 93, 36, 40, 1, 0), (.return_, 39, 0, 0, 0)]
def am_c49 : List am_E := [(.aload_n 0, 0, 0, 0, 0), (.getfield 21, 1, 5, 3, 2), (.invokevirtual 148, 4, 26, 0, 0), (.istore_n 1, 7, 0, 0, 0), (.iload_n 1, 8, 0, 0, 0), (.bipush 8, 9, 0, 0, 0), (.if_icmp .ge 23, 11, 19, 0, 0), (.aload_n 0, 14, 0, 0, 0), (.getfield 11, 15, 5, 0, 2), (.iload_n 1, 18, 0, 0, 0), (.aload_n 0, 19, 0, 0, 0), (.getfield 32, 20, 5, 6, 0), (.iastore, 23, 0, 0, 0), (.aload_n 0, 24, 0, 0, 0), (.getfield 17, 25, 5, 1, 2), (.iload_n 1, 28, 0, 0, 0), (.aload_n 0, 29, 0, 0, 0), (.invokevirtual 87, 30, 52, 0, 0), (.iastore, 33, 0, 0, 0), (.return_, 34, 0, 0, 0)]
def am_c50 : List am_E := [(.iconst 0, 0, 0, 0, 0), (.istore_n 1, 1, 0, 0, 0), (.iload_n 1, 2, 0, 0, 0), (.aload_n 0, 3, 0, 0, 0), (.getfield 21, 4, 5, 3, 2), (.invokevirtual 148, 7, 26, 0, 0), (.if_icmp .ge 37, 10, 25, 0, 0), (.aload_n 0, 13, 0, 0, 0), (.getfield 17, 14, 5, 1, 2), (.iload_n 1, 17, 0, 0, 0), (.iaload, 18, 0, 0, 0), (.aload_n 0, 19, 0, 0, 0), (.invokevirtual 87, 20, 52, 0, 0), (.if_icmp .ne 18, 23, 23, 0, 0), (.aload_n 0, 26, 0, 0, 0), (.aload_n 0, 27, 0, 0, 0), (.getfield 11, 28, 5, 0, 2), (.iload_n 1, 31, 0, 0, 0), (.iaload, 32, 0, 0, 0), (.invokevirtual 151, 33, 51, 1, 0), (.ifCond .eq 5, 36, 23, 0, 0), (.iconst 1, 39, 0, 0, 0), (.ireturn, 40, 1, 0, 0), (.iinc 1 1, 41, 0, 0, 0), (.goto (-42), 44, 2, 0, 0), (.iconst 0, 47, 0, 0, 0), (.ireturn, 48, 1, 0, 0)]
def am_c51 : List am_E := [(.iconst 0, 0, 0, 0, 0), (.istore_n 2, 1, 0, 0, 0), (.iload_n 2, 2, 0, 0, 0), (.aload_n 0, 3, 0, 0, 0), (.invokevirtual 87, 4, 52, 0, 0), (.if_icmp .ge 37, 7, 24, 0, 0), (.aload_n 0, 10, 0, 0, 0), (.getfield 53, 11, 5, 2, 2), (.iload_n 1, 14, 0, 0, 0), (.iload_n 2, 15, 0, 0, 0), (.iadd, 16, 0, 0, 0), (.invokevirtual 154, 17, 83, 1, 0), (.aload_n 0, 20, 0, 0, 0), (.getfield 53, 21, 5, 2, 2), (.aload_n 0, 24, 0, 0, 0), (.getfield 32, 25, 5, 6, 0), (.iload_n 2, 28, 0, 0, 0), (.iadd, 29, 0, 0, 0), (.invokevirtual 154, 30, 83, 1, 0), (.if_icmp .eq 5, 33, 22, 0, 0), (.iconst 0, 36, 0, 0, 0), (.ireturn, 37, 1, 0, 0), (.iinc 2 1, 38, 0, 0, 0), (.goto (-39), 41, 2, 0, 0), (.iconst 1, 44, 0, 0, 0), (.ireturn, 45, 1, 0, 0)]
def am_c52 : List am_E := [(.aload_n 0, 0, 0, 0, 0), (.getfield 29, 1, 5, 5, 0), (.aload_n 0, 4, 0, 0, 0), (.getfield 32, 5, 5, 6, 0), (.isub, 8, 0, 0, 0), (.ireturn, 9, 0, 0, 0)]
def am_c53 : List am_E := [(.aload_n 0, 0, 0, 0, 0), (.getfield 35, 1, 5, 7, 0), (.iconst 1, 4, 0, 0, 0), (.if_icmp .ne 14, 5, 9, 0, 0), (.aload_n 0, 8, 0, 0, 0), (.invokevirtual 87, 9, 52, 0, 0), (.aload_n 1, 12, 0, 0, 0), (.invokevirtual 158, 13, 1006, 0, 0), (.if_icmp .eq 5, 16, 11, 0, 0), (.iconst 0, 19, 0, 0, 0), (.ireturn, 20, 1, 0, 0), (.iconst 0, 21, 0, 0, 0), (.istore_n 2, 22, 0, 0, 0), (.iload_n 2, 23, 0, 0, 0), (.aload_n 1, 24, 0, 0, 0), (.invokevirtual 158, 25, 1006, 0, 0), (.if_icmp .ge 32, 28, 32, 0, 0), (.aload_n 0, 31, 0, 0, 0), (.getfield 53, 32, 5, 2, 2), (.aload_n 0, 35, 0, 0, 0), (.getfield 32, 36, 5, 6, 0), (.iload_n 2, 39, 0, 0, 0), (.iadd, 40, 0, 0, 0), (.invokevirtual 154, 41, 83, 1, 0), (.aload_n 1, 44, 0, 0, 0), (.iload_n 2, 45, 0, 0, 0), (.invokevirtual 163, 46, 1007, 1, 0), (.if_icmp .eq 5, 49, 30, 0, 0), (.iconst 0, 52, 0, 0, 0), (.ireturn, 53, 1, 0, 0), (.iinc 2 1, 54, 0, 0, 0), (.goto (-34), 57, 13, 0, 0), (.iconst 1, 60, 0, 0, 0), (.ireturn, 61, 1, 0, 0)]
def am_c54 : List am_E := [(.iconst 0, 0, 0, 0, 0), (.istore_n 1, 1, 0, 0, 0), (.iload_n 1, 2, 0, 0, 0), (.bipush 7, 3, 0, 0, 0), (.if_icmp .gt 22, 5, 14, 0, 0), (.aload_n 0, 8, 0, 0, 0), (.iload_n 1, 9, 0, 0, 0), (.invokestatic 167, 10, 57, 1, 1), (.invokevirtual 129, 13, 53, 1, 0), (.ifCond .eq 5, 16, 12, 0, 0), (.iload_n 1, 19, 0, 0, 0), (.ireturn, 20, 0, 0, 0), (.iinc 1 1, 21, 0, 0, 0), (.goto (-22), 24, 2, 0, 0), (.iconst (-1), 27, 0, 0, 0), (.ireturn, 28, 0, 0, 0)]
def am_c55 : List am_E := [(.iconst 0, 0, 0, 0, 0), (.istore_n 1, 1, 0, 0, 0), (.aload_n 0, 2, 0, 0, 0), (.getfield 32, 3, 5, 6, 0), (.istore_n 2, 6, 0, 0, 0), (.iload_n 2, 7, 0, 0, 0), (.aload_n 0, 8, 0, 0, 0), (.getfield 29, 9, 5, 5, 0), (.if_icmp .ge 26, 12, 22, 0, 0), (.iload_n 1, 15, 0, 0, 0), (.bipush 10, 16, 0, 0, 0), (.imul, 18, 0, 0, 0), (.aload_n 0, 19, 0, 0, 0), (.getfield 53, 20, 5, 2, 2), (.iload_n 2, 23, 0, 0, 0), (.invokevirtual 154, 24, 83, 1, 0), (.iadd, 27, 0, 0, 0), (.bipush 48, 28, 0, 0, 0), (.isub, 30, 0, 0, 0), (.istore_n 1, 31, 0, 0, 0), (.iinc 2 1, 32, 0, 0, 0), (.goto (-28), 35, 5, 0, 0), (.iload_n 1, 38, 0, 0, 0), (.ireturn, 39, 0, 0, 0)]
def am_c56 : List am_E := [(.aload_n 0, 0, 0, 0, 0), (.getfield 53, 1, 5, 2, 2), (.aload_n 0, 4, 0, 0, 0), (.getfield 29, 5, 5, 5, 0), (.invokevirtual 154, 8, 83, 1, 0), (.ireturn, 11, 0, 0, 0)]
def am_c57 : List am_E := [(.iload_n 0, 0, 0, 0, 0), (.tableswitch 64 0 6 #[43, 46, 49, 52, 55, 58, 61], 1, 1, 43, 0), (.ldc 171, 44, 1, 0, 0), (.areturn, 46, 0, 0, 0), (.ldc 173, 47, 2, 0, 0), (.areturn, 49, 0, 0, 0), (.ldc 175, 50, 3, 0, 0), (.areturn, 52, 0, 0, 0), (.ldc 177, 53, 4, 0, 0), (.areturn, 55, 0, 0, 0), (.ldc 179, 56, 5, 0, 0), (.areturn, 58, 0, 0, 0), (.ldc 181, 59, 6, 0, 0), (.areturn, 61, 0, 0, 0), (.ldc 183, 62, 7, 0, 0), (.areturn, 64, 0, 0, 0), (.ldc 185, 65, 8, 0, 0), (.areturn, 67, 0, 0, 0)]
def am_c58 : List am_E := [(.iload_n 0, 0, 0, 0, 0), (.bipush 10, 1, 0, 0, 0), (.if_icmp .eq 9, 3, 6, 0, 0), (.iload_n 0, 6, 0, 0, 0), (.bipush 32, 7, 0, 0, 0), (.if_icmp .ne 7, 9, 8, 0, 0), (.iconst 1, 12, 0, 0, 0), (.goto 4, 13, 9, 0, 0), (.iconst 0, 16, 0, 0, 0), (.ireturn, 17, 1, 0, 0)]
def am_c59 : List am_E := [(.iload_n 0, 0, 0, 0, 0), (.bipush 97, 1, 0, 0, 0), (.bipush 122, 3, 0, 0, 0), (.invokestatic 187, 5, 139, 3, 4), (.ireturn, 8, 1, 0, 0)]
def am_c60 : List am_E := [(.iload_n 0, 0, 0, 0, 0), (.bipush 48, 1, 0, 0, 0), (.bipush 57, 3, 0, 0, 0), (.invokestatic 187, 5, 139, 3, 4), (.ireturn, 8, 1, 0, 0)]
def am_c61 : List am_E := [(.iload_n 0, 0, 0, 0, 0), (.bipush 60, 1, 0, 0, 0), (.if_icmp .eq 21, 3, 12, 0, 0), (.iload_n 0, 6, 0, 0, 0), (.bipush 62, 7, 0, 0, 0), (.if_icmp .eq 15, 9, 12, 0, 0), (.iload_n 0, 12, 0, 0, 0), (.bipush 61, 13, 0, 0, 0), (.if_icmp .eq 9, 15, 12, 0, 0), (.iload_n 0, 18, 0, 0, 0), (.bipush 59, 19, 0, 0, 0), (.if_icmp .ne 7, 21, 14, 0, 0), (.iconst 1, 24, 0, 0, 0), (.goto 4, 25, 15, 0, 0), (.iconst 0, 28, 0, 0, 0), (.ireturn, 29, 1, 0, 0)]
def am_c62 : List am_E := [(.aload_n 0, 0, 0, 0, 0), (.invokespecial 3, 1, 1000, 0, 2), (.aload_n 0, 4, 0, 0, 0), (.bipush 8, 5, 0, 0, 0), (.newarray .int, 7, 0, 0, 0), (.putfield 9, 9, 6, 0, 2), (.aload_n 0, 12, 0, 0, 0), (.bipush 8, 13, 0, 0, 0), (.newarray .int, 15, 0, 0, 0), (.putfield 15, 17, 6, 1, 2), (.aload_n 0, 20, 0, 0, 0), (.bipush 8, 21, 0, 0, 0), (.bipush 8, 23, 0, 0, 0), (.multianewarray 18 2, 25, 0, 0, 0), (.putfield 20, 29, 6, 2, 2), (.aload_n 0, 32, 0, 0, 0), (.iconst 0, 33, 0, 0, 0), (.putfield 23, 34, 6, 3, 0), (.aload_n 0, 37, 0, 0, 0), (.bipush 10, 38, 0, 0, 0), (.putfield 27, 40, 6, 4, 0), (.aload_n 0, 43, 0, 0, 0), (.bipush 20, 44, 0, 0, 0), (.putfield 30, 46, 6, 5, 0), (.aload_n 0, 49, 0, 0, 0), (.sipush 256, 50, 0, 0, 0), (.newarray .boolean, 53, 0, 0, 0), (.putfield 33, 55, 6, 6, 2), (.aload_n 0, 58, 0, 0, 0), (.sipush 256, 59, 0, 0, 0), (.newarray .long, 62, 0, 0, 0), (.putfield 37, 64, 6, 7, 2), (.aload_n 0, 67, 0, 0, 0), (.sipush 256, 68, 0, 0, 0), (.newarray .long, 71, 0, 0, 0), (.putfield 41, 73, 6, 8, 2), (.aload_n 0, 76, 0, 0, 0), (.ldc2_w 44, 77, 0, 0, 0), (.putfield 46, 80, 6, 9, 1), (.aload_n 0, 83, 0, 0, 0), (.iconst (-1), 84, 0, 0, 0), (.putfield 50, 85, 6, 10, 0), (.iconst 0, 88, 0, 0, 0), (.istore_n 1, 89, 0, 0, 0), (.iload_n 1, 90, 0, 0, 0), (.bipush 8, 91, 0, 0, 0), (.if_icmp .ge 33, 93, 63, 0, 0), (.iconst 0, 96, 0, 0, 0), (.istore_n 2, 97, 0, 0, 0), (.iload_n 2, 98, 0, 0, 0), (.bipush 8, 99, 0, 0, 0), (.if_icmp .ge 19, 101, 61, 0, 0), (.aload_n 0, 104, 0, 0, 0), (.getfield 20, 105, 6, 2, 2), (.iload_n 1, 108, 0, 0, 0), (.aaload, 109, 0, 0, 0), (.iload_n 2, 110, 0, 0, 0), (.bipush 50, 111, 0, 0, 0), (.iastore, 113, 0, 0, 0), (.iinc 2 1, 114, 0, 0, 0), (.goto (-19), 117, 49, 0, 0), (.iinc 1 1, 120, 0, 0, 0), (.goto (-33), 123, 44, 0, 0), (.return_, 126, 0, 0, 0)]
def am_c63 : List am_E := [(.iload_n 1, 0, 0, 0, 0), (.ifCond .lt 15, 1, 8, 0, 0), (.iload_n 1, 4, 0, 0, 0), (.aload_n 0, 5, 0, 0, 0), (.getfield 23, 6, 6, 3, 0), (.if_icmp .ge 7, 9, 8, 0, 0), (.iconst 1, 12, 0, 0, 0), (.goto 4, 13, 9, 0, 0), (.iconst 0, 16, 0, 0, 0), (.ireturn, 17, 1, 0, 0)]
def am_c64 : List am_E := [(.aload_n 0, 0, 0, 0, 0), (.getfield 23, 1, 6, 3, 0), (.bipush 8, 4, 0, 0, 0), (.if_icmp .lt 7, 6, 6, 0, 0), (.iconst 1, 9, 0, 0, 0), (.goto 4, 10, 7, 0, 0), (.iconst 0, 13, 0, 0, 0), (.ireturn, 14, 1, 0, 0)]
def am_c65 : List am_E := [(.iconst 0, 0, 0, 0, 0), (.istore_n 2, 1, 0, 0, 0), (.iload_n 2, 2, 0, 0, 0), (.aload_n 0, 3, 0, 0, 0), (.getfield 23, 4, 6, 3, 0), (.if_icmp .ge 21, 7, 16, 0, 0), (.aload_n 0, 10, 0, 0, 0), (.getfield 9, 11, 6, 0, 2), (.iload_n 2, 14, 0, 0, 0), (.iaload, 15, 0, 0, 0), (.iload_n 1, 16, 0, 0, 0), (.if_icmp .ne 5, 17, 14, 0, 0), (.iconst 1, 20, 0, 0, 0), (.ireturn, 21, 1, 0, 0), (.iinc 2 1, 22, 0, 0, 0), (.goto (-23), 25, 2, 0, 0), (.iconst 0, 28, 0, 0, 0), (.ireturn, 29, 1, 0, 0)]
def am_c66 : List am_E := [(.aload_n 0, 0, 0, 0, 0), (.invokevirtual 53, 1, 64, 0, 0), (.ifCond .eq 5, 4, 5, 0, 0), (.iconst (-1), 7, 0, 0, 0), (.ireturn, 8, 0, 0, 0), (.aload_n 0, 9, 0, 0, 0), (.getfield 9, 10, 6, 0, 2), (.aload_n 0, 13, 0, 0, 0), (.getfield 23, 14, 6, 3, 0), (.iload_n 1, 17, 0, 0, 0), (.iastore, 18, 0, 0, 0), (.aload_n 0, 19, 0, 0, 0), (.getfield 15, 20, 6, 1, 2), (.aload_n 0, 23, 0, 0, 0), (.getfield 23, 24, 6, 3, 0), (.iload_n 2, 27, 0, 0, 0), (.iastore, 28, 0, 0, 0), (.aload_n 0, 29, 0, 0, 0), (.dup, 30, 0, 0, 0), (.getfield 23, 31, 6, 3, 0), (.iconst 1, 34, 0, 0, 0), (.iadd, 35, 0, 0, 0), (.putfield 23, 36, 6, 3, 0), (.aload_n 0, 39, 0, 0, 0), (.invokevirtual 57, 40, 71, 0, 0), (.aload_n 0, 43, 0, 0, 0), (.getfield 23, 44, 6, 3, 0), (.iconst 1, 47, 0, 0, 0), (.isub, 48, 0, 0, 0), (.ireturn, 49, 0, 0, 0)]
def am_c67 : List am_E := [(.aload_n 0, 0, 0, 0, 0), (.iload_n 1, 1, 0, 0, 0), (.invokevirtual 60, 2, 63, 1, 0), (.ifCond .eq 26, 5, 18, 0, 0), (.iload_n 2, 8, 0, 0, 0), (.iconst 0, 9, 0, 0, 0), (.bipush 7, 10, 0, 0, 0), (.invokestatic 64, 12, 139, 3, 4), (.ifCond .eq 16, 15, 18, 0, 0), (.aload_n 0, 18, 0, 0, 0), (.getfield 20, 19, 6, 2, 2), (.iload_n 1, 22, 0, 0, 0), (.aaload, 23, 0, 0, 0), (.iload_n 2, 24, 0, 0, 0), (.iload_n 3, 25, 0, 0, 0), (.iastore, 26, 0, 0, 0), (.aload_n 0, 27, 0, 0, 0), (.invokevirtual 57, 28, 71, 0, 0), (.return_, 31, 0, 0, 0)]
def am_c68 : List am_E := [(.aload_n 0, 0, 0, 0, 0), (.iload_n 1, 1, 0, 0, 0), (.putfield 27, 2, 6, 4, 0), (.aload_n 0, 5, 0, 0, 0), (.iload_n 2, 6, 0, 0, 0), (.putfield 30, 7, 6, 5, 0), (.aload_n 0, 10, 0, 0, 0), (.invokevirtual 57, 11, 71, 0, 0), (.return_, 14, 0, 0, 0)]
def am_c69 : List am_E := [(.aload_n 0, 0, 0, 0, 0), (.iload_n 1, 1, 0, 0, 0), (.invokevirtual 68, 2, 72, 1, 0), (.aload_n 0, 5, 0, 0, 0), (.getfield 46, 6, 6, 9, 1), (.ldc2_w 44, 9, 0, 0, 0), (.lcmp, 12, 0, 0, 0), (.ifCond .ne 7, 13, 10, 0, 0), (.iconst (-1), 16, 0, 0, 0), (.goto 12, 17, 15, 0, 0), (.aload_n 0, 20, 0, 0, 0), (.getfield 46, 21, 6, 9, 1), (.ldc2_w 72, 24, 5, 0, 0), (.ldiv, 27, 0, 0, 0), (.l2i, 28, 0, 0, 0), (.ireturn, 29, 0, 0, 0)]
def am_c70 : List am_E := [(.aload_n 0, 0, 0, 0, 0), (.iload_n 2, 1, 0, 0, 0), (.invokevirtual 68, 2, 72, 1, 0), (.aload_n 0, 5, 0, 0, 0), (.getfield 46, 6, 6, 9, 1), (.ldc2_w 44, 9, 0, 0, 0), (.lcmp, 12, 0, 0, 0), (.ifCond .eq 11, 13, 12, 0, 0), (.aload_n 0, 16, 0, 0, 0), (.iload_n 1, 17, 0, 0, 0), (.invokevirtual 60, 18, 63, 1, 0), (.ifCond .ne 5, 21, 14, 0, 0), (.iconst (-1), 24, 0, 0, 0), (.ireturn, 25, 0, 0, 0), (.iconst 1, 26, 0, 0, 0), (.getstatic 74, 27, 0, 0, 0), (.iload_n 1, 30, 0, 0, 0), (.iaload, 31, 0, 0, 0), (.invokestatic 77, 32, 1001, 2, 1), (.istore_n 3, 35, 0, 0, 0), (.iconst 5, 36, 0, 0, 0), (.aload_n 0, 37, 0, 0, 0), (.getfield 46, 38, 6, 9, 1), (.iload_n 3, 41, 0, 0, 0), (.i2l, 42, 0, 0, 0), (.ldiv, 43, 0, 0, 0), (.ldc2_w 83, 44, 1, 0, 0), (.lrem, 47, 0, 0, 0), (.l2i, 48, 0, 0, 0), (.isub, 49, 0, 0, 0), (.ireturn, 50, 0, 0, 0)]
def am_c71 : List am_E := [(.aload_n 0, 0, 0, 0, 0), (.iconst (-1), 1, 0, 0, 0), (.putfield 50, 2, 6, 10, 0), (.return_, 5, 0, 0, 0)]
def am_c72 : List am_E := [(.aload_n 0, 0, 0, 0, 0), (.getfield 50, 1, 6, 10, 0), (.iload_n 1, 4, 0, 0, 0), (.if_icmp .ne 4, 5, 5, 0, 0), (.return_, 8, 0, 0, 0), (.iconst 1, 9, 0, 0, 0), (.aload_n 0, 10, 0, 0, 0), (.getfield 23, 11, 6, 3, 0), (.ishl, 14, 0, 0, 0), (.iconst 1, 15, 0, 0, 0), (.isub, 16, 0, 0, 0), (.istore_n 2, 17, 0, 0, 0), (.iconst 0, 18, 0, 0, 0), (.istore_n 3, 19, 0, 0, 0), (.iload_n 3, 20, 0, 0, 0), (.iload_n 2, 21, 0, 0, 0), (.if_icmp .gt 37, 22, 35, 0, 0), (.aload_n 0, 25, 0, 0, 0), (.getfield 33, 26, 6, 6, 2), (.iload_n 3, 29, 0, 0, 0), (.aload_n 0, 30, 0, 0, 0), (.iload_n 3, 31, 0, 0, 0), (.invokevirtual 85, 32, 76, 1, 0), (.bastore, 35, 0, 0, 0), (.aload_n 0, 36, 0, 0, 0), (.getfield 41, 37, 6, 8, 2), (.iload_n 3, 40, 0, 0, 0), (.iload_n 3, 41, 0, 0, 0), (.ifCond .ne 7, 42, 31, 0, 0), (.lconst 0, 45, 0, 0, 0), (.goto 6, 46, 32, 0, 0), (.ldc2_w 44, 49, 0, 0, 0), (.lastore, 52, 0, 0, 0), (.iinc 3 1, 53, 0, 0, 0), (.goto (-36), 56, 14, 0, 0), (.iconst 0, 59, 0, 0, 0), (.istore_n 3, 60, 0, 0, 0), (.iload_n 3, 61, 0, 0, 0), (.iload_n 1, 62, 0, 0, 0), (.bipush 6, 63, 0, 0, 0), (.invokestatic 88, 65, 1002, 2, 1), (.if_icmp .ge 41, 68, 60, 0, 0), (.aload_n 0, 71, 0, 0, 0), (.iload_n 3, 72, 0, 0, 0), (.invokevirtual 91, 73, 74, 1, 0), (.iload_n 2, 76, 0, 0, 0), (.istore 4, 77, 0, 0, 0), (.iload 4, 79, 0, 0, 0), (.ifCond .le 22, 81, 58, 0, 0), (.aload_n 0, 84, 0, 0, 0), (.getfield 41, 85, 6, 8, 2), (.iload 4, 88, 0, 0, 0), (.aload_n 0, 90, 0, 0, 0), (.iload 4, 91, 0, 0, 0), (.invokevirtual 94, 93, 73, 1, 0), (.lastore, 96, 0, 0, 0), (.iinc 4 (-1), 97, 0, 0, 0), (.goto (-21), 100, 47, 0, 0), (.iinc 3 1, 103, 0, 0, 0), (.goto (-45), 106, 37, 0, 0), (.aload_n 0, 109, 0, 0, 0), (.aload_n 0, 110, 0, 0, 0), (.getfield 41, 111, 6, 8, 2), (.iload_n 2, 114, 0, 0, 0), (.laload, 115, 0, 0, 0), (.putfield 46, 116, 6, 9, 1), (.aload_n 0, 119, 0, 0, 0), (.iload_n 1, 120, 0, 0, 0), (.putfield 50, 121, 6, 10, 0), (.return_, 124, 0, 0, 0)]
def am_c73 : List am_E := [(.aload_n 0, 0, 0, 0, 0), (.getfield 41, 1, 6, 8, 2), (.iload_n 1, 4, 0, 0, 0), (.laload, 5, 0, 0, 0), (.lstore_n 2, 6, 0, 0, 0), (.iload_n 1, 7, 0, 0, 0), (.istore 4, 8, 0, 0, 0), (.iconst 0, 10, 0, 0, 0), (.istore 5, 11, 0, 0, 0), (.iload 5, 13, 0, 0, 0), (.sipush 256, 15, 0, 0, 0), (.if_icmp .ge 69, 18, 49, 0, 0), (.iload 4, 21, 0, 0, 0), (.ifCond .le 64, 23, 49, 0, 0), (.aload_n 0, 26, 0, 0, 0), (.getfield 41, 27, 6, 8, 2), (.iload_n 1, 30, 0, 0, 0), (.iload 4, 31, 0, 0, 0), (.iconst (-1), 33, 0, 0, 0), (.ixor, 34, 0, 0, 0), (.iand, 35, 0, 0, 0), (.laload, 36, 0, 0, 0), (.lstore 6, 37, 0, 0, 0), (.aload_n 0, 39, 0, 0, 0), (.getfield 33, 40, 6, 6, 2), (.iload 4, 43, 0, 0, 0), (.baload, 45, 0, 0, 0), (.ifCond .eq 27, 46, 41, 0, 0), (.lload 6, 49, 0, 0, 0), (.ldc2_w 44, 51, 0, 0, 0), (.lcmp, 54, 0, 0, 0), (.ifCond .eq 18, 55, 41, 0, 0), (.lload_n 2, 58, 0, 0, 0), (.lload 6, 59, 0, 0, 0), (.aload_n 0, 61, 0, 0, 0), (.getfield 37, 62, 6, 7, 2), (.iload 4, 65, 0, 0, 0), (.laload, 67, 0, 0, 0), (.ladd, 68, 0, 0, 0), (.invokestatic 98, 69, 1005, 2, 1), (.lstore_n 2, 72, 0, 0, 0), (.iload 4, 73, 0, 0, 0), (.iconst 1, 75, 0, 0, 0), (.isub, 76, 0, 0, 0), (.iload_n 1, 77, 0, 0, 0), (.iand, 78, 0, 0, 0), (.istore 4, 79, 0, 0, 0), (.iinc 5 1, 81, 0, 0, 0), (.goto (-71), 84, 9, 0, 0), (.lload_n 2, 87, 0, 0, 0), (.lreturn, 88, 0, 0, 0)]
def am_c74 : List am_E := [(.aload_n 0, 0, 0, 0, 0), (.getfield 37, 1, 6, 7, 2), (.iconst 0, 4, 0, 0, 0), (.lconst 0, 5, 0, 0, 0), (.lastore, 6, 0, 0, 0), (.iconst 0, 7, 0, 0, 0), (.istore_n 2, 8, 0, 0, 0), (.iload_n 2, 9, 0, 0, 0), (.aload_n 0, 10, 0, 0, 0), (.getfield 23, 11, 6, 3, 0), (.if_icmp .ge 51, 14, 39, 0, 0), (.iconst 1, 17, 0, 0, 0), (.iload_n 2, 18, 0, 0, 0), (.ishl, 19, 0, 0, 0), (.istore_n 3, 20, 0, 0, 0), (.iconst 0, 21, 0, 0, 0), (.istore 4, 22, 0, 0, 0), (.iload 4, 24, 0, 0, 0), (.iload_n 3, 26, 0, 0, 0), (.if_icmp .ge 32, 27, 37, 0, 0), (.aload_n 0, 30, 0, 0, 0), (.getfield 37, 31, 6, 7, 2), (.iload_n 3, 34, 0, 0, 0), (.iload 4, 35, 0, 0, 0), (.iadd, 37, 0, 0, 0), (.aload_n 0, 38, 0, 0, 0), (.getfield 37, 39, 6, 7, 2), (.iload 4, 42, 0, 0, 0), (.laload, 44, 0, 0, 0), (.aload_n 0, 45, 0, 0, 0), (.iload_n 2, 46, 0, 0, 0), (.iload_n 1, 47, 0, 0, 0), (.invokevirtual 101, 48, 75, 2, 0), (.ladd, 51, 0, 0, 0), (.lastore, 52, 0, 0, 0), (.iinc 4 1, 53, 0, 0, 0), (.goto (-32), 56, 17, 0, 0), (.iinc 2 1, 59, 0, 0, 0), (.goto (-53), 62, 7, 0, 0), (.return_, 65, 0, 0, 0)]
def am_c75 : List am_E := [(.aload_n 0, 0, 0, 0, 0), (.getfield 20, 1, 6, 2, 2), (.iload_n 1, 4, 0, 0, 0), (.aaload, 5, 0, 0, 0), (.iload_n 2, 6, 0, 0, 0), (.iaload, 7, 0, 0, 0), (.i2l, 8, 0, 0, 0), (.lstore_n 3, 9, 0, 0, 0), (.lload_n 3, 10, 0, 0, 0), (.ldc2_w 72, 11, 5, 0, 0), (.lmul, 14, 0, 0, 0), (.iconst 5, 15, 0, 0, 0), (.iload_n 2, 16, 0, 0, 0), (.isub, 17, 0, 0, 0), (.i2l, 18, 0, 0, 0), (.getstatic 74, 19, 0, 0, 0), (.iload_n 1, 22, 0, 0, 0), (.iaload, 23, 0, 0, 0), (.i2l, 24, 0, 0, 0), (.lmul, 25, 0, 0, 0), (.ladd, 26, 0, 0, 0), (.lreturn, 27, 0, 0, 0)]
def am_c76 : List am_E := [(.iconst 0, 0, 0, 0, 0), (.istore_n 2, 1, 0, 0, 0), (.iload_n 2, 2, 0, 0, 0), (.aload_n 0, 3, 0, 0, 0), (.getfield 23, 4, 6, 3, 0), (.if_icmp .ge 63, 7, 42, 0, 0), (.iconst 0, 10, 0, 0, 0), (.istore_n 3, 11, 0, 0, 0), (.iload_n 3, 12, 0, 0, 0), (.iload_n 2, 13, 0, 0, 0), (.if_icmp .ge 50, 14, 40, 0, 0), (.iload_n 1, 17, 0, 0, 0), (.iload_n 2, 18, 0, 0, 0), (.ishr, 19, 0, 0, 0), (.iconst 1, 20, 0, 0, 0), (.iand, 21, 0, 0, 0), (.iconst 1, 22, 0, 0, 0), (.if_icmp .ne 16, 23, 27, 0, 0), (.iload_n 1, 26, 0, 0, 0), (.iload_n 3, 27, 0, 0, 0), (.ishr, 28, 0, 0, 0), (.iconst 1, 29, 0, 0, 0), (.iand, 30, 0, 0, 0), (.iconst 1, 31, 0, 0, 0), (.if_icmp .ne 7, 32, 27, 0, 0), (.iconst 1, 35, 0, 0, 0), (.goto 4, 36, 28, 0, 0), (.iconst 0, 39, 0, 0, 0), (.istore 4, 40, 0, 0, 0), (.iload 4, 42, 0, 0, 0), (.ifCond .eq 14, 44, 38, 0, 0), (.aload_n 0, 47, 0, 0, 0), (.iload_n 2, 48, 0, 0, 0), (.iload_n 3, 49, 0, 0, 0), (.invokevirtual 105, 50, 77, 2, 0), (.ifCond .ne 5, 53, 38, 0, 0), (.iconst 0, 56, 0, 0, 0), (.ireturn, 57, 1, 0, 0), (.iinc 3 1, 58, 0, 0, 0), (.goto (-49), 61, 8, 0, 0), (.iinc 2 1, 64, 0, 0, 0), (.goto (-65), 67, 2, 0, 0), (.iconst 1, 70, 0, 0, 0), (.ireturn, 71, 1, 0, 0)]
def am_c77 : List am_E := [(.aload_n 0, 0, 0, 0, 0), (.getfield 9, 1, 6, 0, 2), (.iload_n 1, 4, 0, 0, 0), (.iaload, 5, 0, 0, 0), (.aload_n 0, 6, 0, 0, 0), (.getfield 9, 7, 6, 0, 2), (.iload_n 2, 10, 0, 0, 0), (.iaload, 11, 0, 0, 0), (.if_icmp .le 7, 12, 11, 0, 0), (.iload_n 1, 15, 0, 0, 0), (.goto 4, 16, 12, 0, 0), (.iload_n 2, 19, 0, 0, 0), (.istore_n 3, 20, 0, 0, 0), (.aload_n 0, 21, 0, 0, 0), (.getfield 9, 22, 6, 0, 2), (.iload_n 1, 25, 0, 0, 0), (.iaload, 26, 0, 0, 0), (.aload_n 0, 27, 0, 0, 0), (.getfield 9, 28, 6, 0, 2), (.iload_n 2, 31, 0, 0, 0), (.iaload, 32, 0, 0, 0), (.isub, 33, 0, 0, 0), (.invokestatic 109, 34, 1003, 1, 1), (.istore 4, 37, 0, 0, 0), (.iload 4, 39, 0, 0, 0), (.aload_n 0, 41, 0, 0, 0), (.getfield 27, 42, 6, 4, 0), (.if_icmp .lt 27, 45, 40, 0, 0), (.aload_n 0, 48, 0, 0, 0), (.getfield 15, 49, 6, 1, 2), (.iload_n 3, 52, 0, 0, 0), (.iaload, 53, 0, 0, 0), (.bipush 9, 54, 0, 0, 0), (.if_icmp .ne 12, 56, 38, 0, 0), (.iload 4, 59, 0, 0, 0), (.aload_n 0, 61, 0, 0, 0), (.getfield 30, 62, 6, 5, 0), (.if_icmp .le 7, 65, 40, 0, 0), (.iconst 1, 68, 0, 0, 0), (.goto 4, 69, 41, 0, 0), (.iconst 0, 72, 0, 0, 0), (.ireturn, 73, 1, 0, 0)]
def am_c78 : List am_E := [(.aload_n 0, 0, 0, 0, 0), (.invokespecial 3, 1, 1000, 0, 2), (.aload_n 0, 4, 0, 0, 0), (.sipush 400, 5, 0, 0, 0), (.newarray .int, 8, 0, 0, 0), (.putfield 11, 10, 7, 0, 2), (.aload_n 0, 13, 0, 0, 0), (.iconst 0, 14, 0, 0, 0), (.putfield 15, 15, 7, 1, 0), (.return_, 18, 0, 0, 0)]
def am_c79 : List am_E := [(.aload_n 0, 0, 0, 0, 0), (.getfield 15, 1, 7, 1, 0), (.bipush 20, 4, 0, 0, 0), (.iadd, 6, 0, 0, 0), (.sipush 400, 7, 0, 0, 0), (.if_icmp .gt 7, 10, 8, 0, 0), (.iconst 1, 13, 0, 0, 0), (.goto 4, 14, 9, 0, 0), (.iconst 0, 17, 0, 0, 0), (.ireturn, 18, 1, 0, 0)]
def am_c80 : List am_E := [(.bipush 24, 0, 0, 0, 0), (.istore_n 2, 2, 0, 0, 0), (.iload_n 2, 3, 0, 0, 0), (.ifCond .lt 45, 4, 26, 0, 0), (.aload_n 0, 7, 0, 0, 0), (.getfield 15, 8, 7, 1, 0), (.sipush 400, 11, 0, 0, 0), (.if_icmp .ge 35, 14, 26, 0, 0), (.aload_n 0, 17, 0, 0, 0), (.getfield 11, 18, 7, 0, 2), (.aload_n 0, 21, 0, 0, 0), (.getfield 15, 22, 7, 1, 0), (.iload_n 1, 25, 0, 0, 0), (.iload_n 2, 26, 0, 0, 0), (.iushr, 27, 0, 0, 0), (.sipush 255, 28, 0, 0, 0), (.iand, 31, 0, 0, 0), (.iastore, 32, 0, 0, 0), (.aload_n 0, 33, 0, 0, 0), (.dup, 34, 0, 0, 0), (.getfield 15, 35, 7, 1, 0), (.iconst 1, 38, 0, 0, 0), (.iadd, 39, 0, 0, 0), (.putfield 15, 40, 7, 1, 0), (.iinc 2 (-8), 43, 0, 0, 0), (.goto (-43), 46, 2, 0, 0), (.return_, 49, 0, 0, 0)]
def am_c81 : List am_E := [(.aload_n 0, 0, 0, 0, 0), (.getfield 15, 1, 7, 1, 0), (.ireturn, 4, 0, 0, 0)]
def am_c82 : List am_E := [(.aload_n 0, 0, 0, 0, 0), (.iconst 0, 1, 0, 0, 0), (.putfield 15, 2, 7, 1, 0), (.return_, 5, 0, 0, 0)]
def am_c83 : List am_E := [(.iload_n 1, 0, 0, 0, 0), (.ifCond .lt 20, 1, 11, 0, 0), (.iload_n 1, 4, 0, 0, 0), (.aload_n 0, 5, 0, 0, 0), (.getfield 15, 6, 7, 1, 0), (.if_icmp .ge 12, 9, 11, 0, 0), (.aload_n 0, 12, 0, 0, 0), (.getfield 11, 13, 7, 0, 2), (.iload_n 1, 16, 0, 0, 0), (.iaload, 17, 0, 0, 0), (.goto 4, 18, 12, 0, 0), (.iconst (-1), 21, 0, 0, 0), (.ireturn, 22, 0, 0, 0)]
def am_c84 : List am_E := [(.aload_n 0, 0, 0, 0, 0), (.invokespecial 3, 1, 1000, 0, 2), (.aload_n 0, 4, 0, 0, 0), (.bipush 40, 5, 0, 0, 0), (.putfield 9, 7, 8, 0, 0), (.aload_n 0, 10, 0, 0, 0), (.bipush 40, 11, 0, 0, 0), (.putfield 15, 13, 8, 1, 0), (.aload_n 0, 16, 0, 0, 0), (.bipush 40, 17, 0, 0, 0), (.putfield 18, 19, 8, 2, 0), (.aload_n 0, 22, 0, 0, 0), (.bipush 12, 23, 0, 0, 0), (.putfield 21, 25, 8, 3, 0), (.aload_n 0, 28, 0, 0, 0), (.bipush 30, 29, 0, 0, 0), (.putfield 24, 31, 8, 4, 0), (.aload_n 0, 34, 0, 0, 0), (.iconst 0, 35, 0, 0, 0), (.putfield 27, 36, 8, 5, 0), (.aload_n 0, 39, 0, 0, 0), (.iconst 0, 40, 0, 0, 0), (.putfield 30, 41, 8, 6, 0), (.aload_n 0, 44, 0, 0, 0), (.iconst 0, 45, 0, 0, 0), (.putfield 33, 46, 8, 7, 0), (.return_, 49, 0, 0, 0)]
def am_c85 : List am_E := [(.aload_n 0, 0, 0, 0, 0), (.iload_n 1, 1, 0, 0, 0), (.putfield 9, 2, 8, 0, 0), (.aload_n 0, 5, 0, 0, 0), (.iload_n 2, 6, 0, 0, 0), (.putfield 15, 7, 8, 1, 0), (.aload_n 0, 10, 0, 0, 0), (.iload_n 3, 11, 0, 0, 0), (.putfield 18, 12, 8, 2, 0), (.return_, 15, 0, 0, 0)]
def am_c86 : List am_E := [(.aload_n 0, 0, 0, 0, 0), (.iload_n 1, 1, 0, 0, 0), (.putfield 21, 2, 8, 3, 0), (.aload_n 0, 5, 0, 0, 0), (.iload_n 2, 6, 0, 0, 0), (.putfield 24, 7, 8, 4, 0), (.aload_n 0, 10, 0, 0, 0), (.iload_n 3, 11, 0, 0, 0), (.putfield 27, 12, 8, 5, 0), (.return_, 15, 0, 0, 0)]
def am_c87 : List am_E := [(.aload_n 0, 0, 0, 0, 0), (.aload_n 1, 1, 0, 0, 0), (.getfield 9, 2, 8, 0, 0), (.aload_n 1, 5, 0, 0, 0), (.getfield 15, 6, 8, 1, 0), (.aload_n 1, 9, 0, 0, 0), (.getfield 18, 10, 8, 2, 0), (.invokevirtual 36, 13, 85, 3, 0), (.aload_n 0, 16, 0, 0, 0), (.aload_n 1, 17, 0, 0, 0), (.getfield 21, 18, 8, 3, 0), (.aload_n 1, 21, 0, 0, 0), (.getfield 24, 22, 8, 4, 0), (.aload_n 1, 25, 0, 0, 0), (.getfield 27, 26, 8, 5, 0), (.invokevirtual 40, 29, 86, 3, 0), (.return_, 32, 0, 0, 0)]
def am_c88 : List am_E := [(.aload_n 0, 0, 0, 0, 0), (.iload_n 1, 1, 0, 0, 0), (.putfield 30, 2, 8, 6, 0), (.return_, 5, 0, 0, 0)]
def am_c89 : List am_E := [(.aload_n 0, 0, 0, 0, 0), (.getfield 33, 1, 8, 7, 0), (.ireturn, 4, 0, 0, 0)]
def am_c90 : List am_E := [(.aload_n 0, 0, 0, 0, 0), (.dup, 1, 0, 0, 0), (.getfield 33, 2, 8, 7, 0), (.iload_n 1, 5, 0, 0, 0), (.iadd, 6, 0, 0, 0), (.putfield 33, 7, 8, 7, 0), (.return_, 10, 0, 0, 0)]
def am_c91 : List am_E := [(.aload_n 0, 0, 0, 0, 0), (.iload_n 1, 1, 0, 0, 0), (.iload_n 2, 2, 0, 0, 0), (.aload_n 0, 3, 0, 0, 0), (.getfield 30, 4, 8, 6, 0), (.aload_n 0, 7, 0, 0, 0), (.getfield 33, 8, 8, 7, 0), (.invokevirtual 43, 11, 94, 4, 0), (.aload_n 0, 14, 0, 0, 0), (.iconst 0, 15, 0, 0, 0), (.putfield 30, 16, 8, 6, 0), (.aload_n 0, 19, 0, 0, 0), (.iconst 0, 20, 0, 0, 0), (.putfield 33, 21, 8, 7, 0), (.return_, 24, 0, 0, 0)]
def am_c92 : List am_E := [(.iload_n 1, 0, 0, 0, 0), (.tableswitch 69 0 5 #[39, 44, 49, 54, 59, 64], 1, 2, 39, 0), (.aload_n 0, 40, 0, 0, 0), (.getfield 9, 41, 8, 0, 0), (.ireturn, 44, 0, 0, 0), (.aload_n 0, 45, 0, 0, 0), (.getfield 15, 46, 8, 1, 0), (.ireturn, 49, 0, 0, 0), (.aload_n 0, 50, 0, 0, 0), (.getfield 18, 51, 8, 2, 0), (.ireturn, 54, 0, 0, 0), (.aload_n 0, 55, 0, 0, 0), (.getfield 21, 56, 8, 3, 0), (.ireturn, 59, 0, 0, 0), (.aload_n 0, 60, 0, 0, 0), (.getfield 24, 61, 8, 4, 0), (.ireturn, 64, 0, 0, 0), (.aload_n 0, 65, 0, 0, 0), (.getfield 27, 66, 8, 5, 0), (.ireturn, 69, 0, 0, 0), (.aload_n 0, 70, 0, 0, 0), (.invokevirtual 47, 71, 93, 0, 0), (.ireturn, 74, 0, 0, 0)]
def am_c93 : List am_E := [(.aload_n 0, 0, 0, 0, 0), (.getfield 24, 1, 8, 4, 0), (.aload_n 0, 4, 0, 0, 0), (.getfield 27, 5, 8, 5, 0), (.iconst 4, 8, 0, 0, 0), (.idiv, 9, 0, 0, 0), (.isub, 10, 0, 0, 0), (.istore_n 1, 11, 0, 0, 0), (.aload_n 0, 12, 0, 0, 0), (.getfield 9, 13, 8, 0, 0), (.bipush 50, 16, 0, 0, 0), (.if_icmp .le 15, 18, 21, 0, 0), (.iload_n 1, 21, 0, 0, 0), (.aload_n 0, 22, 0, 0, 0), (.getfield 9, 23, 8, 0, 0), (.bipush 50, 26, 0, 0, 0), (.isub, 28, 0, 0, 0), (.iconst 2, 29, 0, 0, 0), (.idiv, 30, 0, 0, 0), (.isub, 31, 0, 0, 0), (.istore_n 1, 32, 0, 0, 0), (.aload_n 0, 33, 0, 0, 0), (.getfield 21, 34, 8, 3, 0), (.bipush 10, 37, 0, 0, 0), (.if_icmp .le 15, 39, 34, 0, 0), (.iload_n 1, 42, 0, 0, 0), (.aload_n 0, 43, 0, 0, 0), (.getfield 21, 44, 8, 3, 0), (.bipush 10, 47, 0, 0, 0), (.isub, 49, 0, 0, 0), (.iconst 4, 50, 0, 0, 0), (.idiv, 51, 0, 0, 0), (.isub, 52, 0, 0, 0), (.istore_n 1, 53, 0, 0, 0), (.iconst 0, 54, 0, 0, 0), (.iload_n 1, 55, 0, 0, 0), (.invokestatic 51, 56, 1001, 2, 1), (.ireturn, 59, 0, 0, 0)]
def am_c94 : List am_E := [(.iload_n 3, 0, 0, 0, 0), (.iconst 1, 1, 0, 0, 0), (.iand, 2, 0, 0, 0), (.ifCond .eq 7, 3, 6, 0, 0), (.iconst 1, 6, 0, 0, 0), (.goto 4, 7, 7, 0, 0), (.iconst 0, 10, 0, 0, 0), (.istore 5, 11, 0, 0, 0), (.aload_n 0, 13, 0, 0, 0), (.iload 5, 14, 0, 0, 0), (.ifCond .eq 7, 16, 13, 0, 0), (.iconst 0, 19, 0, 0, 0), (.goto 4, 20, 14, 0, 0), (.iload_n 1, 23, 0, 0, 0), (.iload_n 3, 24, 0, 0, 0), (.bipush 8, 25, 0, 0, 0), (.iand, 27, 0, 0, 0), (.ifCond .eq 7, 28, 20, 0, 0), (.iconst 1, 31, 0, 0, 0), (.goto 4, 32, 21, 0, 0), (.iconst 0, 35, 0, 0, 0), (.invokevirtual 57, 36, 95, 2, 0), (.aload_n 0, 39, 0, 0, 0), (.invokevirtual 61, 40, 96, 0, 0), (.aload_n 0, 43, 0, 0, 0), (.iload 5, 44, 0, 0, 0), (.ifCond .eq 9, 46, 31, 0, 0), (.iload_n 2, 49, 0, 0, 0), (.iconst 2, 50, 0, 0, 0), (.idiv, 51, 0, 0, 0), (.goto 4, 52, 32, 0, 0), (.iload_n 2, 55, 0, 0, 0), (.invokevirtual 64, 56, 97, 1, 0), (.aload_n 0, 59, 0, 0, 0), (.iload_n 3, 60, 0, 0, 0), (.iconst 2, 61, 0, 0, 0), (.iand, 62, 0, 0, 0), (.ifCond .eq 7, 63, 40, 0, 0), (.iconst 1, 66, 0, 0, 0), (.goto 4, 67, 41, 0, 0), (.iconst 0, 70, 0, 0, 0), (.invokevirtual 68, 71, 98, 1, 0), (.aload_n 0, 74, 0, 0, 0), (.invokevirtual 72, 75, 99, 0, 0), (.iload_n 3, 78, 0, 0, 0), (.iconst 4, 79, 0, 0, 0), (.iand, 80, 0, 0, 0), (.ifCond .eq 16, 81, 54, 0, 0), (.aload_n 0, 84, 0, 0, 0), (.aload_n 0, 85, 0, 0, 0), (.getfield 21, 86, 8, 3, 0), (.bipush 6, 89, 0, 0, 0), (.invokestatic 75, 91, 1002, 2, 1), (.putfield 21, 94, 8, 3, 0), (.iload_n 3, 97, 0, 0, 0), (.bipush 16, 98, 0, 0, 0), (.iand, 100, 0, 0, 0), (.ifCond .eq 23, 101, 68, 0, 0), (.iload 4, 104, 0, 0, 0), (.ifCond .ne 18, 106, 68, 0, 0), (.aload_n 0, 109, 0, 0, 0), (.aload_n 0, 110, 0, 0, 0), (.getfield 27, 111, 8, 5, 0), (.iconst 3, 114, 0, 0, 0), (.isub, 115, 0, 0, 0), (.bipush 100, 116, 0, 0, 0), (.invokestatic 78, 118, 140, 2, 4), (.putfield 27, 121, 8, 5, 0), (.aload_n 0, 124, 0, 0, 0), (.aload_n 0, 125, 0, 0, 0), (.getfield 27, 126, 8, 5, 0), (.iload 4, 129, 0, 0, 0), (.bipush 40, 131, 0, 0, 0), (.idiv, 133, 0, 0, 0), (.iadd, 134, 0, 0, 0), (.bipush 100, 135, 0, 0, 0), (.invokestatic 78, 137, 140, 2, 4), (.putfield 27, 140, 8, 5, 0), (.aload_n 0, 143, 0, 0, 0), (.aload_n 0, 144, 0, 0, 0), (.getfield 24, 145, 8, 4, 0), (.iload 4, 148, 0, 0, 0), (.sipush 200, 150, 0, 0, 0), (.idiv, 153, 0, 0, 0), (.isub, 154, 0, 0, 0), (.bipush 100, 155, 0, 0, 0), (.invokestatic 78, 157, 140, 2, 4), (.putfield 24, 160, 8, 4, 0), (.return_, 163, 0, 0, 0)]
def am_c95 : List am_E := [(.aload_n 0, 0, 0, 0, 0), (.aload_n 0, 1, 0, 0, 0), (.getfield 9, 2, 8, 0, 0), (.iload_n 1, 5, 0, 0, 0), (.iadd, 6, 0, 0, 0), (.iload_n 2, 7, 0, 0, 0), (.ifCond .eq 8, 8, 9, 0, 0), (.bipush 8, 11, 0, 0, 0), (.goto 4, 13, 10, 0, 0), (.iconst 0, 16, 0, 0, 0), (.iadd, 17, 0, 0, 0), (.bipush 100, 18, 0, 0, 0), (.invokestatic 78, 20, 140, 2, 4), (.putfield 9, 23, 8, 0, 0), (.return_, 26, 0, 0, 0)]
def am_c96 : List am_E := [(.aload_n 0, 0, 0, 0, 0), (.getfield 9, 1, 8, 0, 0), (.aload_n 0, 4, 0, 0, 0), (.getfield 15, 5, 8, 1, 0), (.if_icmp .le 45, 8, 29, 0, 0), (.aload_n 0, 11, 0, 0, 0), (.getfield 9, 12, 8, 0, 0), (.aload_n 0, 15, 0, 0, 0), (.getfield 15, 16, 8, 1, 0), (.isub, 19, 0, 0, 0), (.iconst 4, 20, 0, 0, 0), (.idiv, 21, 0, 0, 0), (.istore_n 1, 22, 0, 0, 0), (.aload_n 0, 23, 0, 0, 0), (.aload_n 0, 24, 0, 0, 0), (.getfield 9, 25, 8, 0, 0), (.iload_n 1, 28, 0, 0, 0), (.isub, 29, 0, 0, 0), (.bipush 100, 30, 0, 0, 0), (.invokestatic 78, 32, 140, 2, 4), (.putfield 9, 35, 8, 0, 0), (.aload_n 0, 38, 0, 0, 0), (.aload_n 0, 39, 0, 0, 0), (.getfield 15, 40, 8, 1, 0), (.iload_n 1, 43, 0, 0, 0), (.iadd, 44, 0, 0, 0), (.bipush 100, 45, 0, 0, 0), (.invokestatic 78, 47, 140, 2, 4), (.putfield 15, 50, 8, 1, 0), (.aload_n 0, 53, 0, 0, 0), (.getfield 15, 54, 8, 1, 0), (.aload_n 0, 57, 0, 0, 0), (.getfield 18, 58, 8, 2, 0), (.if_icmp .le 45, 61, 58, 0, 0), (.aload_n 0, 64, 0, 0, 0), (.getfield 15, 65, 8, 1, 0), (.aload_n 0, 68, 0, 0, 0), (.getfield 18, 69, 8, 2, 0), (.isub, 72, 0, 0, 0), (.iconst 4, 73, 0, 0, 0), (.idiv, 74, 0, 0, 0), (.istore_n 1, 75, 0, 0, 0), (.aload_n 0, 76, 0, 0, 0), (.aload_n 0, 77, 0, 0, 0), (.getfield 15, 78, 8, 1, 0), (.iload_n 1, 81, 0, 0, 0), (.isub, 82, 0, 0, 0), (.bipush 100, 83, 0, 0, 0), (.invokestatic 78, 85, 140, 2, 4), (.putfield 15, 88, 8, 1, 0), (.aload_n 0, 91, 0, 0, 0), (.aload_n 0, 92, 0, 0, 0), (.getfield 18, 93, 8, 2, 0), (.iload_n 1, 96, 0, 0, 0), (.iadd, 97, 0, 0, 0), (.bipush 100, 98, 0, 0, 0), (.invokestatic 78, 100, 140, 2, 4), (.putfield 18, 103, 8, 2, 0), (.aload_n 0, 106, 0, 0, 0), (.aload_n 0, 107, 0, 0, 0), (.getfield 18, 108, 8, 2, 0), (.aload_n 0, 111, 0, 0, 0), (.getfield 18, 112, 8, 2, 0), (.bipush 10, 115, 0, 0, 0), (.idiv, 117, 0, 0, 0), (.isub, 118, 0, 0, 0), (.bipush 100, 119, 0, 0, 0), (.invokestatic 78, 121, 140, 2, 4), (.putfield 18, 124, 8, 2, 0), (.return_, 127, 0, 0, 0)]
def am_c97 : List am_E := [(.aload_n 0, 0, 0, 0, 0), (.aload_n 0, 1, 0, 0, 0), (.getfield 9, 2, 8, 0, 0), (.iload_n 1, 5, 0, 0, 0), (.isub, 6, 0, 0, 0), (.aload_n 0, 7, 0, 0, 0), (.getfield 21, 8, 8, 3, 0), (.bipush 12, 11, 0, 0, 0), (.idiv, 13, 0, 0, 0), (.isub, 14, 0, 0, 0), (.bipush 100, 15, 0, 0, 0), (.invokestatic 78, 17, 140, 2, 4), (.putfield 9, 20, 8, 0, 0), (.aload_n 0, 23, 0, 0, 0), (.aload_n 0, 24, 0, 0, 0), (.getfield 15, 25, 8, 1, 0), (.aload_n 0, 28, 0, 0, 0), (.getfield 21, 29, 8, 3, 0), (.bipush 20, 32, 0, 0, 0), (.idiv, 34, 0, 0, 0), (.isub, 35, 0, 0, 0), (.bipush 100, 36, 0, 0, 0), (.invokestatic 78, 38, 140, 2, 4), (.putfield 15, 41, 8, 1, 0), (.return_, 44, 0, 0, 0)]
def am_c98 : List am_E := [(.iload_n 1, 0, 0, 0, 0), (.ifCond .eq 80, 1, 40, 0, 0), (.aload_n 0, 4, 0, 0, 0), (.getfield 9, 5, 8, 0, 0), (.bipush 25, 8, 0, 0, 0), (.bipush 60, 10, 0, 0, 0), (.invokestatic 81, 12, 139, 3, 4), (.ifCond .eq 41, 15, 28, 0, 0), (.aload_n 0, 18, 0, 0, 0), (.getfield 15, 19, 8, 1, 0), (.bipush 70, 22, 0, 0, 0), (.if_icmp .gt 32, 24, 28, 0, 0), (.aload_n 0, 27, 0, 0, 0), (.aload_n 0, 28, 0, 0, 0), (.getfield 24, 29, 8, 4, 0), (.iconst 1, 32, 0, 0, 0), (.iadd, 33, 0, 0, 0), (.bipush 100, 34, 0, 0, 0), (.aload_n 0, 36, 0, 0, 0), (.getfield 24, 37, 8, 4, 0), (.isub, 40, 0, 0, 0), (.bipush 8, 41, 0, 0, 0), (.idiv, 43, 0, 0, 0), (.iadd, 44, 0, 0, 0), (.bipush 100, 45, 0, 0, 0), (.invokestatic 78, 47, 140, 2, 4), (.putfield 24, 50, 8, 4, 0), (.goto 28, 53, 40, 0, 0), (.aload_n 0, 56, 0, 0, 0), (.getfield 9, 57, 8, 0, 0), (.bipush 60, 60, 0, 0, 0), (.if_icmp .le 19, 62, 40, 0, 0), (.aload_n 0, 65, 0, 0, 0), (.aload_n 0, 66, 0, 0, 0), (.getfield 24, 67, 8, 4, 0), (.bipush 6, 70, 0, 0, 0), (.isub, 72, 0, 0, 0), (.bipush 100, 73, 0, 0, 0), (.invokestatic 78, 75, 140, 2, 4), (.putfield 24, 78, 8, 4, 0), (.aload_n 0, 81, 0, 0, 0), (.getfield 9, 82, 8, 0, 0), (.bipush 70, 85, 0, 0, 0), (.if_icmp .le 18, 87, 52, 0, 0), (.aload_n 0, 90, 0, 0, 0), (.aload_n 0, 91, 0, 0, 0), (.getfield 24, 92, 8, 4, 0), (.iconst 1, 95, 0, 0, 0), (.isub, 96, 0, 0, 0), (.bipush 100, 97, 0, 0, 0), (.invokestatic 78, 99, 140, 2, 4), (.putfield 24, 102, 8, 4, 0), (.return_, 105, 0, 0, 0)]
def am_c99 : List am_E := [(.aload_n 0, 0, 0, 0, 0), (.getfield 27, 1, 8, 5, 0), (.bipush 50, 4, 0, 0, 0), (.if_icmp .le 4, 6, 5, 0, 0), (.return_, 9, 0, 0, 0), (.aload_n 0, 10, 0, 0, 0), (.getfield 15, 11, 8, 1, 0), (.bipush 20, 14, 0, 0, 0), (.bipush 80, 16, 0, 0, 0), (.invokestatic 81, 18, 139, 3, 4), (.ifCond .eq 21, 21, 20, 0, 0), (.aload_n 0, 24, 0, 0, 0), (.aload_n 0, 25, 0, 0, 0), (.getfield 21, 26, 8, 3, 0), (.iconst 2, 29, 0, 0, 0), (.iadd, 30, 0, 0, 0), (.bipush 60, 31, 0, 0, 0), (.invokestatic 78, 33, 140, 2, 4), (.putfield 21, 36, 8, 3, 0), (.goto 50, 39, 43, 0, 0), (.aload_n 0, 42, 0, 0, 0), (.getfield 15, 43, 8, 1, 0), (.bipush 10, 46, 0, 0, 0), (.bipush 90, 48, 0, 0, 0), (.invokestatic 81, 50, 139, 3, 4), (.ifCond .eq 21, 53, 35, 0, 0), (.aload_n 0, 56, 0, 0, 0), (.aload_n 0, 57, 0, 0, 0), (.getfield 21, 58, 8, 3, 0), (.iconst 1, 61, 0, 0, 0), (.iadd, 62, 0, 0, 0), (.bipush 60, 63, 0, 0, 0), (.invokestatic 78, 65, 140, 2, 4), (.putfield 21, 68, 8, 3, 0), (.goto 18, 71, 43, 0, 0), (.aload_n 0, 74, 0, 0, 0), (.aload_n 0, 75, 0, 0, 0), (.getfield 21, 76, 8, 3, 0), (.iconst 1, 79, 0, 0, 0), (.isub, 80, 0, 0, 0), (.bipush 60, 81, 0, 0, 0), (.invokestatic 78, 83, 140, 2, 4), (.putfield 21, 86, 8, 3, 0), (.return_, 89, 0, 0, 0)]
def am_c100 : List am_E := [(.aload_n 0, 0, 0, 0, 0), (.invokespecial 3, 1, 1000, 0, 2), (.aload_n 0, 4, 0, 0, 0), (.sipush 1000, 5, 0, 0, 0), (.newarray .int, 8, 0, 0, 0), (.putfield 9, 10, 9, 0, 2), (.aload_n 0, 13, 0, 0, 0), (.sipush 1000, 14, 0, 0, 0), (.newarray .int, 17, 0, 0, 0), (.putfield 15, 19, 9, 1, 2), (.return_, 22, 0, 0, 0)]
def am_c101 : List am_E := [(.iload_n 1, 0, 0, 0, 0), (.invokestatic 18, 1, 138, 1, 4), (.ifCond .eq 17, 4, 13, 0, 0), (.aload_n 0, 7, 0, 0, 0), (.getfield 9, 8, 9, 0, 2), (.iload_n 1, 11, 0, 0, 0), (.iload_n 2, 12, 0, 0, 0), (.iastore, 13, 0, 0, 0), (.aload_n 0, 14, 0, 0, 0), (.getfield 15, 15, 9, 1, 2), (.iload_n 1, 18, 0, 0, 0), (.iload_n 3, 19, 0, 0, 0), (.iastore, 20, 0, 0, 0), (.return_, 21, 0, 0, 0)]
def am_c102 : List am_E := [(.iload_n 1, 0, 0, 0, 0), (.invokestatic 18, 1, 138, 1, 4), (.ifCond .eq 12, 4, 8, 0, 0), (.aload_n 0, 7, 0, 0, 0), (.getfield 9, 8, 9, 0, 2), (.iload_n 1, 11, 0, 0, 0), (.iaload, 12, 0, 0, 0), (.goto 4, 13, 9, 0, 0), (.iconst 0, 16, 0, 0, 0), (.ireturn, 17, 0, 0, 0)]
def am_c103 : List am_E := [(.iload_n 1, 0, 0, 0, 0), (.invokestatic 18, 1, 138, 1, 4), (.ifCond .eq 12, 4, 8, 0, 0), (.aload_n 0, 7, 0, 0, 0), (.getfield 15, 8, 9, 1, 2), (.iload_n 1, 11, 0, 0, 0), (.iaload, 12, 0, 0, 0), (.goto 4, 13, 9, 0, 0), (.iconst 0, 16, 0, 0, 0), (.ireturn, 17, 0, 0, 0)]
def am_c104 : List am_E := [(.aload_n 0, 0, 0, 0, 0), (.invokespecial 1, 1, 1000, 0, 2), (.aload_n 0, 4, 0, 0, 0), (.bipush 8, 5, 0, 0, 0), (.anewarray 9, 7, 8, 0, 0), (.putfield 11, 10, 10, 0, 2), (.aload_n 0, 13, 0, 0, 0), (.new 9, 14, 8, 0, 0), (.dup, 17, 0, 0, 0), (.invokespecial 15, 18, 84, 0, 5), (.putfield 16, 21, 10, 1, 2), (.aload_n 0, 24, 0, 0, 0), (.new 20, 25, 9, 0, 0), (.dup, 28, 0, 0, 0), (.invokespecial 22, 29, 100, 0, 5), (.putfield 23, 32, 10, 2, 2), (.aload_n 0, 35, 0, 0, 0), (.new 20, 36, 9, 0, 0), (.dup, 39, 0, 0, 0), (.invokespecial 22, 40, 100, 0, 5), (.putfield 27, 43, 10, 3, 2), (.aload_n 0, 46, 0, 0, 0), (.new 30, 47, 2, 0, 0), (.dup, 50, 0, 0, 0), (.invokespecial 32, 51, 11, 0, 5), (.putfield 33, 54, 10, 4, 2), (.aload_n 0, 57, 0, 0, 0), (.new 37, 58, 3, 0, 0), (.dup, 61, 0, 0, 0), (.invokespecial 39, 62, 18, 0, 2), (.putfield 40, 65, 10, 5, 2), (.aload_n 0, 68, 0, 0, 0), (.new 44, 69, 7, 0, 0), (.dup, 72, 0, 0, 0), (.invokespecial 46, 73, 78, 0, 5), (.putfield 47, 76, 10, 6, 2), (.aload_n 0, 79, 0, 0, 0), (.new 51, 80, 5, 0, 0), (.dup, 83, 0, 0, 0), (.aload_n 0, 84, 0, 0, 0), (.getfield 47, 85, 10, 6, 2), (.invokespecial 53, 88, 34, 1, 2), (.putfield 56, 91, 10, 7, 2), (.aload_n 0, 94, 0, 0, 0), (.new 60, 95, 6, 0, 0), (.dup, 98, 0, 0, 0), (.invokespecial 62, 99, 62, 0, 2), (.putfield 63, 102, 10, 8, 2), (.aload_n 0, 105, 0, 0, 0), (.new 67, 106, 1, 0, 0), (.dup, 109, 0, 0, 0), (.invokespecial 69, 110, 5, 0, 5), (.putfield 70, 113, 10, 9, 2), (.aload_n 0, 116, 0, 0, 0), (.new 74, 117, 0, 0, 0), (.dup, 120, 0, 0, 0), (.invokespecial 76, 121, 0, 0, 5), (.putfield 77, 124, 10, 10, 2), (.aload_n 0, 127, 0, 0, 0), (.new 81, 128, 4, 0, 0), (.dup, 131, 0, 0, 0), (.invokespecial 83, 132, 24, 0, 5), (.putfield 84, 135, 10, 11, 2), (.aload_n 0, 138, 0, 0, 0), (.iconst 0, 139, 0, 0, 0), (.putfield 88, 140, 10, 12, 0), (.aload_n 0, 143, 0, 0, 0), (.iconst 0, 144, 0, 0, 0), (.putfield 92, 145, 10, 13, 0), (.aload_n 0, 148, 0, 0, 0), (.iconst 0, 149, 0, 0, 0), (.putfield 95, 150, 10, 14, 0), (.iconst 0, 153, 0, 0, 0), (.istore_n 1, 154, 0, 0, 0), (.iload_n 1, 155, 0, 0, 0), (.bipush 8, 156, 0, 0, 0), (.if_icmp .ge 22, 158, 86, 0, 0), (.aload_n 0, 161, 0, 0, 0), (.getfield 11, 162, 10, 0, 2), (.iload_n 1, 165, 0, 0, 0), (.new 9, 166, 8, 0, 0), (.dup, 169, 0, 0, 0), (.invokespecial 15, 170, 84, 0, 5), (.aastore, 173, 0, 0, 0), (.iinc 1 1, 174, 0, 0, 0), (.goto (-22), 177, 74, 0, 0), (.return_, 180, 0, 0, 0)]
def am_c105 : List am_E := [(.aload_n 0, 0, 0, 0, 0), (.getfield 88, 1, 10, 12, 0), (.ireturn, 4, 0, 0, 0)]
def am_c106 : List am_E := [(.aload_n 0, 0, 0, 0, 0), (.getfield 92, 1, 10, 13, 0), (.bipush 8, 4, 0, 0, 0), (.if_icmp .lt 9, 6, 8, 0, 0), (.aload_n 0, 9, 0, 0, 0), (.iconst 3, 10, 0, 0, 0), (.invokevirtual 98, 11, 134, 1, 0), (.ireturn, 14, 0, 0, 0), (.aload_n 0, 15, 0, 0, 0), (.dup, 16, 0, 0, 0), (.getfield 92, 17, 10, 13, 0), (.iconst 1, 20, 0, 0, 0), (.iadd, 21, 0, 0, 0), (.putfield 92, 22, 10, 13, 0), (.aload_n 0, 25, 0, 0, 0), (.aload_n 0, 26, 0, 0, 0), (.getfield 92, 27, 10, 13, 0), (.iconst 1, 30, 0, 0, 0), (.isub, 31, 0, 0, 0), (.invokevirtual 102, 32, 133, 1, 0), (.ireturn, 35, 0, 0, 0)]
def am_c107 : List am_E := [(.aload_n 0, 0, 0, 0, 0), (.iload_n 1, 1, 0, 0, 0), (.invokevirtual 105, 2, 137, 1, 0), (.ifCond .ne 9, 5, 8, 0, 0), (.aload_n 0, 8, 0, 0, 0), (.iconst 1, 9, 0, 0, 0), (.invokevirtual 109, 10, 136, 1, 0), (.ireturn, 13, 1, 0, 0), (.iload_n 2, 14, 0, 0, 0), (.iconst 0, 15, 0, 0, 0), (.bipush 100, 16, 0, 0, 0), (.invokestatic 112, 18, 139, 3, 1), (.ifCond .eq 28, 21, 25, 0, 0), (.iload_n 3, 24, 0, 0, 0), (.iconst 0, 25, 0, 0, 0), (.bipush 100, 26, 0, 0, 0), (.invokestatic 112, 28, 139, 3, 1), (.ifCond .eq 18, 31, 25, 0, 0), (.iload 4, 34, 0, 0, 0), (.iconst 0, 36, 0, 0, 0), (.bipush 100, 37, 0, 0, 0), (.invokestatic 112, 39, 139, 3, 1), (.ifCond .eq 7, 42, 25, 0, 0), (.iconst 1, 45, 0, 0, 0), (.goto 4, 46, 26, 0, 0), (.iconst 0, 49, 0, 0, 0), (.istore 8, 50, 0, 0, 0), (.iload 5, 52, 0, 0, 0), (.iconst 0, 54, 0, 0, 0), (.bipush 60, 55, 0, 0, 0), (.invokestatic 112, 57, 139, 3, 1), (.ifCond .eq 29, 60, 44, 0, 0), (.iload 6, 63, 0, 0, 0), (.iconst 0, 65, 0, 0, 0), (.bipush 100, 66, 0, 0, 0), (.invokestatic 112, 68, 139, 3, 1), (.ifCond .eq 18, 71, 44, 0, 0), (.iload 7, 74, 0, 0, 0), (.iconst 0, 76, 0, 0, 0), (.bipush 100, 77, 0, 0, 0), (.invokestatic 112, 79, 139, 3, 1), (.ifCond .eq 7, 82, 44, 0, 0), (.iconst 1, 85, 0, 0, 0), (.goto 4, 86, 45, 0, 0), (.iconst 0, 89, 0, 0, 0), (.istore 9, 90, 0, 0, 0), (.iload 8, 92, 0, 0, 0), (.ifCond .eq 8, 94, 50, 0, 0), (.iload 9, 97, 0, 0, 0), (.ifCond .ne 9, 99, 54, 0, 0), (.aload_n 0, 102, 0, 0, 0), (.iconst 2, 103, 0, 0, 0), (.invokevirtual 109, 104, 136, 1, 0), (.ireturn, 107, 1, 0, 0), (.aload_n 0, 108, 0, 0, 0), (.getfield 11, 109, 10, 0, 2), (.iload_n 1, 112, 0, 0, 0), (.aaload, 113, 0, 0, 0), (.iload_n 2, 114, 0, 0, 0), (.iload_n 3, 115, 0, 0, 0), (.iload 4, 116, 0, 0, 0), (.invokevirtual 116, 118, 85, 3, 0), (.aload_n 0, 121, 0, 0, 0), (.getfield 11, 122, 10, 0, 2), (.iload_n 1, 125, 0, 0, 0), (.aaload, 126, 0, 0, 0), (.iload 5, 127, 0, 0, 0), (.iload 6, 129, 0, 0, 0), (.iload 7, 131, 0, 0, 0), (.invokevirtual 120, 133, 86, 3, 0), (.aload_n 0, 136, 0, 0, 0), (.invokevirtual 123, 137, 135, 0, 0), (.ireturn, 140, 1, 0, 0)]
def am_c108 : List am_E := [(.aload_n 0, 0, 0, 0, 0), (.iload_n 1, 1, 0, 0, 0), (.invokevirtual 105, 2, 137, 1, 0), (.ifCond .ne 9, 5, 8, 0, 0), (.aload_n 0, 8, 0, 0, 0), (.iconst 1, 9, 0, 0, 0), (.invokevirtual 98, 10, 134, 1, 0), (.ireturn, 13, 0, 0, 0), (.iload_n 2, 14, 0, 0, 0), (.iconst 0, 15, 0, 0, 0), (.bipush 6, 16, 0, 0, 0), (.invokestatic 112, 18, 139, 3, 1), (.ifCond .ne 9, 21, 17, 0, 0), (.aload_n 0, 24, 0, 0, 0), (.iconst 2, 25, 0, 0, 0), (.invokevirtual 98, 26, 134, 1, 0), (.ireturn, 29, 0, 0, 0), (.aload_n 0, 30, 0, 0, 0), (.aload_n 0, 31, 0, 0, 0), (.getfield 11, 32, 10, 0, 2), (.iload_n 1, 35, 0, 0, 0), (.aaload, 36, 0, 0, 0), (.iload_n 2, 37, 0, 0, 0), (.invokevirtual 127, 38, 92, 1, 0), (.invokevirtual 102, 41, 133, 1, 0), (.ireturn, 44, 0, 0, 0)]
def am_c109 : List am_E := [(.iload_n 1, 0, 0, 0, 0), (.invokestatic 130, 1, 138, 1, 1), (.ifCond .eq 23, 4, 13, 0, 0), (.iload_n 2, 7, 0, 0, 0), (.iconst 0, 8, 0, 0, 0), (.bipush 100, 9, 0, 0, 0), (.invokestatic 112, 11, 139, 3, 1), (.ifCond .eq 13, 14, 13, 0, 0), (.iload_n 3, 17, 0, 0, 0), (.iconst 0, 18, 0, 0, 0), (.bipush 20, 19, 0, 0, 0), (.invokestatic 112, 21, 139, 3, 1), (.ifCond .ne 9, 24, 17, 0, 0), (.aload_n 0, 27, 0, 0, 0), (.iconst 2, 28, 0, 0, 0), (.invokevirtual 109, 29, 136, 1, 0), (.ireturn, 32, 1, 0, 0), (.iload_n 1, 33, 0, 0, 0), (.aload_n 0, 34, 0, 0, 0), (.getfield 95, 35, 10, 14, 0), (.if_icmp .ge 9, 38, 25, 0, 0), (.aload_n 0, 41, 0, 0, 0), (.iconst 4, 42, 0, 0, 0), (.invokevirtual 109, 43, 136, 1, 0), (.ireturn, 46, 1, 0, 0), (.iload 4, 47, 0, 0, 0), (.ifCond .eq 10, 49, 30, 0, 0), (.aload_n 0, 52, 0, 0, 0), (.getfield 27, 53, 10, 3, 2), (.goto 7, 56, 32, 0, 0), (.aload_n 0, 59, 0, 0, 0), (.getfield 23, 60, 10, 2, 2), (.astore 5, 63, 0, 0, 0), (.aload 5, 65, 0, 0, 0), (.iload_n 1, 67, 0, 0, 0), (.iload_n 2, 68, 0, 0, 0), (.iload_n 3, 69, 0, 0, 0), (.invokevirtual 133, 70, 101, 3, 0), (.aload_n 0, 73, 0, 0, 0), (.invokevirtual 123, 74, 135, 0, 0), (.ireturn, 77, 1, 0, 0)]
def am_c110 : List am_E := [(.aload_n 0, 0, 0, 0, 0), (.iload_n 1, 1, 0, 0, 0), (.invokevirtual 105, 2, 137, 1, 0), (.ifCond .ne 9, 5, 8, 0, 0), (.aload_n 0, 8, 0, 0, 0), (.iconst 1, 9, 0, 0, 0), (.invokevirtual 109, 10, 136, 1, 0), (.ireturn, 13, 1, 0, 0), (.iload_n 2, 14, 0, 0, 0), (.iconst 0, 15, 0, 0, 0), (.bipush 31, 16, 0, 0, 0), (.invokestatic 112, 18, 139, 3, 1), (.ifCond .ne 9, 21, 17, 0, 0), (.aload_n 0, 24, 0, 0, 0), (.iconst 2, 25, 0, 0, 0), (.invokevirtual 109, 26, 136, 1, 0), (.ireturn, 29, 1, 0, 0), (.aload_n 0, 30, 0, 0, 0), (.getfield 11, 31, 10, 0, 2), (.iload_n 1, 34, 0, 0, 0), (.aaload, 35, 0, 0, 0), (.iload_n 2, 36, 0, 0, 0), (.invokevirtual 136, 37, 88, 1, 0), (.aload_n 0, 40, 0, 0, 0), (.invokevirtual 123, 41, 135, 0, 0), (.ireturn, 44, 1, 0, 0)]
def am_c111 : List am_E := [(.aload_n 0, 0, 0, 0, 0), (.iload_n 1, 1, 0, 0, 0), (.invokevirtual 105, 2, 137, 1, 0), (.ifCond .ne 9, 5, 8, 0, 0), (.aload_n 0, 8, 0, 0, 0), (.iconst 1, 9, 0, 0, 0), (.invokevirtual 109, 10, 136, 1, 0), (.ireturn, 13, 1, 0, 0), (.iload_n 2, 14, 0, 0, 0), (.iconst 0, 15, 0, 0, 0), (.sipush 1000, 16, 0, 0, 0), (.aload_n 0, 19, 0, 0, 0), (.getfield 11, 20, 10, 0, 2), (.iload_n 1, 23, 0, 0, 0), (.aaload, 24, 0, 0, 0), (.invokevirtual 140, 25, 89, 0, 0), (.isub, 28, 0, 0, 0), (.invokestatic 112, 29, 139, 3, 1), (.ifCond .ne 9, 32, 23, 0, 0), (.aload_n 0, 35, 0, 0, 0), (.iconst 2, 36, 0, 0, 0), (.invokevirtual 109, 37, 136, 1, 0), (.ireturn, 40, 1, 0, 0), (.aload_n 0, 41, 0, 0, 0), (.getfield 11, 42, 10, 0, 2), (.iload_n 1, 45, 0, 0, 0), (.aaload, 46, 0, 0, 0), (.iload_n 2, 47, 0, 0, 0), (.invokevirtual 144, 48, 90, 1, 0), (.aload_n 0, 51, 0, 0, 0), (.invokevirtual 123, 52, 135, 0, 0), (.ireturn, 55, 1, 0, 0)]
def am_c112 : List am_E := [(.aload_n 0, 0, 0, 0, 0), (.getfield 95, 1, 10, 14, 0), (.sipush 999, 4, 0, 0, 0), (.if_icmp .lt 10, 7, 8, 0, 0), (.aload_n 0, 10, 0, 0, 0), (.bipush 6, 11, 0, 0, 0), (.invokevirtual 98, 13, 134, 1, 0), (.ireturn, 16, 0, 0, 0), (.iconst 0, 17, 0, 0, 0), (.istore_n 1, 18, 0, 0, 0), (.iload_n 1, 19, 0, 0, 0), (.aload_n 0, 20, 0, 0, 0), (.getfield 92, 21, 10, 13, 0), (.if_icmp .ge 40, 24, 31, 0, 0), (.aload_n 0, 27, 0, 0, 0), (.getfield 11, 28, 10, 0, 2), (.iload_n 1, 31, 0, 0, 0), (.aaload, 32, 0, 0, 0), (.aload_n 0, 33, 0, 0, 0), (.getfield 27, 34, 10, 3, 2), (.aload_n 0, 37, 0, 0, 0), (.getfield 95, 38, 10, 14, 0), (.invokevirtual 147, 41, 102, 1, 0), (.aload_n 0, 44, 0, 0, 0), (.getfield 27, 45, 10, 3, 2), (.aload_n 0, 48, 0, 0, 0), (.getfield 95, 49, 10, 14, 0), (.invokevirtual 150, 52, 103, 1, 0), (.invokevirtual 153, 55, 91, 2, 0), (.iinc 1 1, 58, 0, 0, 0), (.goto (-42), 61, 10, 0, 0), (.aload_n 0, 64, 0, 0, 0), (.dup, 65, 0, 0, 0), (.getfield 95, 66, 10, 14, 0), (.iconst 1, 69, 0, 0, 0), (.iadd, 70, 0, 0, 0), (.putfield 95, 71, 10, 14, 0), (.aload_n 0, 74, 0, 0, 0), (.aload_n 0, 75, 0, 0, 0), (.getfield 95, 76, 10, 14, 0), (.invokevirtual 102, 79, 133, 1, 0), (.ireturn, 82, 0, 0, 0)]
def am_c113 : List am_E := [(.aload_n 0, 0, 0, 0, 0), (.aload_n 0, 1, 0, 0, 0), (.getfield 95, 2, 10, 14, 0), (.invokevirtual 102, 5, 133, 1, 0), (.ireturn, 8, 0, 0, 0)]
def am_c114 : List am_E := [(.aload_n 0, 0, 0, 0, 0), (.iload_n 1, 1, 0, 0, 0), (.invokevirtual 105, 2, 137, 1, 0), (.ifCond .ne 9, 5, 8, 0, 0), (.aload_n 0, 8, 0, 0, 0), (.iconst 1, 9, 0, 0, 0), (.invokevirtual 109, 10, 136, 1, 0), (.ireturn, 13, 1, 0, 0), (.iload_n 2, 14, 0, 0, 0), (.invokestatic 130, 15, 138, 1, 1), (.ifCond .eq 13, 18, 16, 0, 0), (.iload_n 3, 21, 0, 0, 0), (.iconst 0, 22, 0, 0, 0), (.bipush 100, 23, 0, 0, 0), (.invokestatic 112, 25, 139, 3, 1), (.ifCond .ne 9, 28, 20, 0, 0), (.aload_n 0, 31, 0, 0, 0), (.iconst 2, 32, 0, 0, 0), (.invokevirtual 109, 33, 136, 1, 0), (.ireturn, 36, 1, 0, 0), (.aload_n 0, 37, 0, 0, 0), (.getfield 33, 38, 10, 4, 2), (.invokevirtual 157, 41, 12, 0, 0), (.ifCond .eq 9, 44, 28, 0, 0), (.aload_n 0, 47, 0, 0, 0), (.iconst 3, 48, 0, 0, 0), (.invokevirtual 109, 49, 136, 1, 0), (.ireturn, 52, 1, 0, 0), (.aload_n 0, 53, 0, 0, 0), (.getfield 33, 54, 10, 4, 2), (.iload_n 1, 57, 0, 0, 0), (.iload_n 2, 58, 0, 0, 0), (.iload_n 3, 59, 0, 0, 0), (.invokevirtual 160, 60, 13, 3, 0), (.aload_n 0, 63, 0, 0, 0), (.invokevirtual 123, 64, 135, 0, 0), (.ireturn, 67, 1, 0, 0)]
def am_c115 : List am_E := [(.aload_n 0, 0, 0, 0, 0), (.iload_n 1, 1, 0, 0, 0), (.invokevirtual 105, 2, 137, 1, 0), (.ifCond .ne 9, 5, 8, 0, 0), (.aload_n 0, 8, 0, 0, 0), (.iconst 1, 9, 0, 0, 0), (.invokevirtual 109, 10, 136, 1, 0), (.ireturn, 13, 1, 0, 0), (.iload_n 2, 14, 0, 0, 0), (.invokestatic 130, 15, 138, 1, 1), (.ifCond .ne 9, 18, 15, 0, 0), (.aload_n 0, 21, 0, 0, 0), (.iconst 2, 22, 0, 0, 0), (.invokevirtual 109, 23, 136, 1, 0), (.ireturn, 26, 1, 0, 0), (.aload_n 0, 27, 0, 0, 0), (.getfield 33, 28, 10, 4, 2), (.aload_n 0, 31, 0, 0, 0), (.getfield 77, 32, 10, 10, 2), (.iload_n 1, 35, 0, 0, 0), (.iload_n 2, 36, 0, 0, 0), (.invokevirtual 163, 37, 14, 3, 0), (.ifCond .ne 9, 40, 27, 0, 0), (.aload_n 0, 43, 0, 0, 0), (.iconst 5, 44, 0, 0, 0), (.invokevirtual 109, 45, 136, 1, 0), (.ireturn, 48, 1, 0, 0), (.aload_n 0, 49, 0, 0, 0), (.invokevirtual 123, 50, 135, 0, 0), (.ireturn, 53, 1, 0, 0)]
def am_c116 : List am_E := [(.aload_n 0, 0, 0, 0, 0), (.iload_n 1, 1, 0, 0, 0), (.invokevirtual 105, 2, 137, 1, 0), (.ifCond .ne 9, 5, 8, 0, 0), (.aload_n 0, 8, 0, 0, 0), (.iconst 1, 9, 0, 0, 0), (.invokevirtual 98, 10, 134, 1, 0), (.ireturn, 13, 0, 0, 0), (.iload_n 3, 14, 0, 0, 0), (.iconst 0, 15, 0, 0, 0), (.bipush 6, 16, 0, 0, 0), (.invokestatic 112, 18, 139, 3, 1), (.ifCond .eq 18, 21, 20, 0, 0), (.iload 4, 24, 0, 0, 0), (.iconst 0, 26, 0, 0, 0), (.bipush 6, 27, 0, 0, 0), (.invokestatic 112, 29, 139, 3, 1), (.ifCond .eq 7, 32, 20, 0, 0), (.iconst 1, 35, 0, 0, 0), (.goto 4, 36, 21, 0, 0), (.iconst 0, 39, 0, 0, 0), (.istore 5, 40, 0, 0, 0), (.iload_n 2, 42, 0, 0, 0), (.iconst 1, 43, 0, 0, 0), (.bipush 6, 44, 0, 0, 0), (.invokestatic 112, 46, 139, 3, 1), (.ifCond .eq 8, 49, 29, 0, 0), (.iload 5, 52, 0, 0, 0), (.ifCond .ne 9, 54, 33, 0, 0), (.aload_n 0, 57, 0, 0, 0), (.iconst 2, 58, 0, 0, 0), (.invokevirtual 98, 59, 134, 1, 0), (.ireturn, 62, 0, 0, 0), (.aload_n 0, 63, 0, 0, 0), (.getfield 95, 64, 10, 14, 0), (.iload_n 2, 67, 0, 0, 0), (.iadd, 68, 0, 0, 0), (.sipush 999, 69, 0, 0, 0), (.if_icmp .le 10, 72, 43, 0, 0), (.aload_n 0, 75, 0, 0, 0), (.bipush 6, 76, 0, 0, 0), (.invokevirtual 98, 78, 134, 1, 0), (.ireturn, 81, 0, 0, 0), (.aload_n 0, 82, 0, 0, 0), (.getfield 40, 83, 10, 5, 2), (.aload_n 0, 86, 0, 0, 0), (.getfield 11, 87, 10, 0, 2), (.iload_n 1, 90, 0, 0, 0), (.aaload, 91, 0, 0, 0), (.aload_n 0, 92, 0, 0, 0), (.getfield 23, 93, 10, 2, 2), (.aload_n 0, 96, 0, 0, 0), (.getfield 95, 97, 10, 14, 0), (.iload_n 2, 100, 0, 0, 0), (.invokevirtual 167, 101, 19, 4, 0), (.aload_n 0, 104, 0, 0, 0), (.aload_n 0, 105, 0, 0, 0), (.getfield 40, 106, 10, 5, 2), (.iload_n 3, 109, 0, 0, 0), (.iload 4, 110, 0, 0, 0), (.invokevirtual 171, 112, 20, 2, 0), (.invokevirtual 102, 115, 133, 1, 0), (.ireturn, 118, 0, 0, 0)]
def am_c117 : List am_E := [(.aload_n 0, 0, 0, 0, 0), (.getfield 40, 1, 10, 5, 2), (.iload_n 1, 4, 0, 0, 0), (.invokevirtual 175, 5, 21, 1, 0), (.istore_n 2, 8, 0, 0, 0), (.iload_n 2, 9, 0, 0, 0), (.iconst (-1), 10, 0, 0, 0), (.if_icmp .ne 11, 11, 12, 0, 0), (.aload_n 0, 14, 0, 0, 0), (.iconst 5, 15, 0, 0, 0), (.invokevirtual 98, 16, 134, 1, 0), (.goto 8, 19, 15, 0, 0), (.aload_n 0, 22, 0, 0, 0), (.iload_n 2, 23, 0, 0, 0), (.invokevirtual 102, 24, 133, 1, 0), (.ireturn, 27, 0, 0, 0)]
def am_c118 : List am_E := [(.aload_n 0, 0, 0, 0, 0), (.getfield 47, 1, 10, 6, 2), (.invokevirtual 178, 4, 79, 0, 0), (.ifCond .ne 5, 7, 6, 0, 0), (.iconst (-1), 10, 0, 0, 0), (.ireturn, 11, 0, 0, 0), (.aload_n 0, 12, 0, 0, 0), (.getfield 47, 13, 10, 6, 2), (.iload_n 1, 16, 0, 0, 0), (.invokevirtual 181, 17, 80, 1, 0), (.aload_n 0, 20, 0, 0, 0), (.getfield 47, 21, 10, 6, 2), (.iload_n 2, 24, 0, 0, 0), (.invokevirtual 181, 25, 80, 1, 0), (.aload_n 0, 28, 0, 0, 0), (.getfield 47, 29, 10, 6, 2), (.iload_n 3, 32, 0, 0, 0), (.invokevirtual 181, 33, 80, 1, 0), (.aload_n 0, 36, 0, 0, 0), (.getfield 47, 37, 10, 6, 2), (.iload 4, 40, 0, 0, 0), (.invokevirtual 181, 42, 80, 1, 0), (.aload_n 0, 45, 0, 0, 0), (.getfield 47, 46, 10, 6, 2), (.iload 5, 49, 0, 0, 0), (.invokevirtual 181, 51, 80, 1, 0), (.aload_n 0, 54, 0, 0, 0), (.getfield 47, 55, 10, 6, 2), (.invokevirtual 184, 58, 81, 0, 0), (.ireturn, 61, 0, 0, 0)]
def am_c119 : List am_E := [(.iload_n 1, 0, 0, 0, 0), (.iconst 0, 1, 0, 0, 0), (.aload_n 0, 2, 0, 0, 0), (.getfield 47, 3, 10, 6, 2), (.invokevirtual 184, 6, 81, 0, 0), (.invokestatic 112, 9, 139, 3, 1), (.ifCond .ne 9, 12, 11, 0, 0), (.aload_n 0, 15, 0, 0, 0), (.iconst 2, 16, 0, 0, 0), (.invokevirtual 98, 17, 134, 1, 0), (.ireturn, 20, 0, 0, 0), (.aload_n 0, 21, 0, 0, 0), (.getfield 56, 22, 10, 7, 2), (.iload_n 1, 25, 0, 0, 0), (.invokevirtual 187, 26, 38, 1, 0), (.istore_n 2, 29, 0, 0, 0), (.aload_n 0, 30, 0, 0, 0), (.getfield 47, 31, 10, 6, 2), (.invokevirtual 190, 34, 82, 0, 0), (.iload_n 2, 37, 0, 0, 0), (.ifCond .ne 10, 38, 25, 0, 0), (.aload_n 0, 41, 0, 0, 0), (.bipush 8, 42, 0, 0, 0), (.invokevirtual 98, 44, 134, 1, 0), (.ireturn, 47, 0, 0, 0), (.aload_n 0, 48, 0, 0, 0), (.aload_n 0, 49, 0, 0, 0), (.getfield 56, 50, 10, 7, 2), (.aload_n 0, 53, 0, 0, 0), (.getfield 84, 54, 10, 11, 2), (.invokevirtual 193, 57, 37, 1, 0), (.putfield 84, 60, 10, 11, 2), (.aload_n 0, 63, 0, 0, 0), (.aload_n 0, 64, 0, 0, 0), (.getfield 84, 65, 10, 11, 2), (.invokevirtual 197, 68, 26, 0, 0), (.invokevirtual 102, 71, 133, 1, 0), (.ireturn, 74, 0, 0, 0)]
def am_c120 : List am_E := [(.iload_n 1, 0, 0, 0, 0), (.ifCond .ne 11, 1, 6, 0, 0), (.aload_n 0, 4, 0, 0, 0), (.getfield 56, 5, 10, 7, 2), (.invokevirtual 200, 8, 35, 0, 0), (.ireturn, 11, 0, 0, 0), (.iload_n 1, 12, 0, 0, 0), (.iconst 1, 13, 0, 0, 0), (.if_icmp .ne 13, 14, 13, 0, 0), (.aload_n 0, 17, 0, 0, 0), (.getfield 56, 18, 10, 7, 2), (.invokevirtual 203, 21, 36, 0, 0), (.goto 4, 24, 14, 0, 0), (.iconst (-1), 27, 0, 0, 0), (.ireturn, 28, 0, 0, 0)]
def am_c121 : List am_E := [(.aload_n 0, 0, 0, 0, 0), (.iload_n 1, 1, 0, 0, 0), (.invokevirtual 105, 2, 137, 1, 0), (.ifCond .ne 9, 5, 8, 0, 0), (.aload_n 0, 8, 0, 0, 0), (.iconst 1, 9, 0, 0, 0), (.invokevirtual 98, 10, 134, 1, 0), (.ireturn, 13, 0, 0, 0), (.aload_n 0, 14, 0, 0, 0), (.getfield 84, 15, 10, 11, 2), (.aload_n 0, 18, 0, 0, 0), (.getfield 11, 19, 10, 0, 2), (.iload_n 1, 22, 0, 0, 0), (.aaload, 23, 0, 0, 0), (.aload_n 0, 24, 0, 0, 0), (.getfield 23, 25, 10, 2, 2), (.aload_n 0, 28, 0, 0, 0), (.getfield 95, 29, 10, 14, 0), (.invokevirtual 147, 32, 102, 1, 0), (.invokevirtual 206, 35, 31, 2, 0), (.istore_n 2, 38, 0, 0, 0), (.iload_n 2, 39, 0, 0, 0), (.iconst (-1), 40, 0, 0, 0), (.if_icmp .ne 11, 41, 28, 0, 0), (.aload_n 0, 44, 0, 0, 0), (.iconst 5, 45, 0, 0, 0), (.invokevirtual 98, 46, 134, 1, 0), (.goto 8, 49, 31, 0, 0), (.aload_n 0, 52, 0, 0, 0), (.iload_n 2, 53, 0, 0, 0), (.invokevirtual 102, 54, 133, 1, 0), (.ireturn, 57, 0, 0, 0)]
def am_c122 : List am_E := [(.aload_n 0, 0, 0, 0, 0), (.iload_n 1, 1, 0, 0, 0), (.invokevirtual 105, 2, 137, 1, 0), (.ifCond .ne 9, 5, 8, 0, 0), (.aload_n 0, 8, 0, 0, 0), (.iconst 1, 9, 0, 0, 0), (.invokevirtual 98, 10, 134, 1, 0), (.ireturn, 13, 0, 0, 0), (.iload_n 2, 14, 0, 0, 0), (.iconst 0, 15, 0, 0, 0), (.aload_n 0, 16, 0, 0, 0), (.getfield 84, 17, 10, 11, 2), (.invokevirtual 197, 20, 26, 0, 0), (.iconst 1, 23, 0, 0, 0), (.isub, 24, 0, 0, 0), (.invokestatic 112, 25, 139, 3, 1), (.ifCond .eq 13, 28, 22, 0, 0), (.iload_n 3, 31, 0, 0, 0), (.iconst 1, 32, 0, 0, 0), (.bipush 60, 33, 0, 0, 0), (.invokestatic 112, 35, 139, 3, 1), (.ifCond .ne 9, 38, 26, 0, 0), (.aload_n 0, 41, 0, 0, 0), (.iconst 2, 42, 0, 0, 0), (.invokevirtual 98, 43, 134, 1, 0), (.ireturn, 46, 0, 0, 0), (.aload_n 0, 47, 0, 0, 0), (.getfield 95, 48, 10, 14, 0), (.iload_n 3, 51, 0, 0, 0), (.iadd, 52, 0, 0, 0), (.sipush 999, 53, 0, 0, 0), (.if_icmp .le 10, 56, 36, 0, 0), (.aload_n 0, 59, 0, 0, 0), (.bipush 6, 60, 0, 0, 0), (.invokevirtual 98, 62, 134, 1, 0), (.ireturn, 65, 0, 0, 0), (.aload_n 0, 66, 0, 0, 0), (.getfield 16, 67, 10, 1, 2), (.aload_n 0, 70, 0, 0, 0), (.getfield 11, 71, 10, 0, 2), (.iload_n 1, 74, 0, 0, 0), (.aaload, 75, 0, 0, 0), (.invokevirtual 210, 76, 87, 1, 0), (.aload_n 0, 79, 0, 0, 0), (.getfield 95, 80, 10, 14, 0), (.istore 4, 83, 0, 0, 0), (.iload 4, 85, 0, 0, 0), (.aload_n 0, 87, 0, 0, 0), (.getfield 95, 88, 10, 14, 0), (.iload_n 3, 91, 0, 0, 0), (.iadd, 92, 0, 0, 0), (.if_icmp .ge 67, 93, 82, 0, 0), (.aload_n 0, 96, 0, 0, 0), (.getfield 84, 97, 10, 11, 2), (.aload_n 0, 100, 0, 0, 0), (.getfield 16, 101, 10, 1, 2), (.aload_n 0, 104, 0, 0, 0), (.getfield 23, 105, 10, 2, 2), (.iload 4, 108, 0, 0, 0), (.invokevirtual 147, 110, 102, 1, 0), (.invokevirtual 206, 113, 31, 2, 0), (.iload_n 2, 116, 0, 0, 0), (.if_icmp .ne 10, 117, 67, 0, 0), (.aload_n 0, 120, 0, 0, 0), (.iload 4, 121, 0, 0, 0), (.invokevirtual 102, 123, 133, 1, 0), (.ireturn, 126, 0, 0, 0), (.aload_n 0, 127, 0, 0, 0), (.getfield 16, 128, 10, 1, 2), (.aload_n 0, 131, 0, 0, 0), (.getfield 23, 132, 10, 2, 2), (.iload 4, 135, 0, 0, 0), (.invokevirtual 147, 137, 102, 1, 0), (.aload_n 0, 140, 0, 0, 0), (.getfield 23, 141, 10, 2, 2), (.iload 4, 144, 0, 0, 0), (.invokevirtual 150, 146, 103, 1, 0), (.iconst 0, 149, 0, 0, 0), (.iconst 0, 150, 0, 0, 0), (.invokevirtual 214, 151, 94, 4, 0), (.iinc 4 1, 154, 0, 0, 0), (.goto (-72), 157, 46, 0, 0), (.aload_n 0, 160, 0, 0, 0), (.iconst 5, 161, 0, 0, 0), (.invokevirtual 98, 162, 134, 1, 0), (.ireturn, 165, 0, 0, 0)]
def am_c123 : List am_E := [(.iload_n 1, 0, 0, 0, 0), (.invokestatic 130, 1, 138, 1, 1), (.ifCond .eq 13, 4, 8, 0, 0), (.iload_n 2, 7, 0, 0, 0), (.iconst 0, 8, 0, 0, 0), (.bipush 9, 9, 0, 0, 0), (.invokestatic 112, 11, 139, 3, 1), (.ifCond .ne 9, 14, 12, 0, 0), (.aload_n 0, 17, 0, 0, 0), (.iconst 2, 18, 0, 0, 0), (.invokevirtual 98, 19, 134, 1, 0), (.ireturn, 22, 0, 0, 0), (.aload_n 0, 23, 0, 0, 0), (.getfield 63, 24, 10, 8, 2), (.invokevirtual 218, 27, 64, 0, 0), (.ifCond .eq 9, 30, 20, 0, 0), (.aload_n 0, 33, 0, 0, 0), (.iconst 3, 34, 0, 0, 0), (.invokevirtual 98, 35, 134, 1, 0), (.ireturn, 38, 0, 0, 0), (.aload_n 0, 39, 0, 0, 0), (.getfield 63, 40, 10, 8, 2), (.iload_n 1, 43, 0, 0, 0), (.invokevirtual 219, 44, 65, 1, 0), (.ifCond .eq 10, 47, 29, 0, 0), (.aload_n 0, 50, 0, 0, 0), (.bipush 7, 51, 0, 0, 0), (.invokevirtual 98, 53, 134, 1, 0), (.ireturn, 56, 0, 0, 0), (.aload_n 0, 57, 0, 0, 0), (.aload_n 0, 58, 0, 0, 0), (.getfield 63, 59, 10, 8, 2), (.iload_n 1, 62, 0, 0, 0), (.iload_n 2, 63, 0, 0, 0), (.invokevirtual 222, 64, 66, 2, 0), (.invokevirtual 102, 67, 133, 1, 0), (.ireturn, 70, 0, 0, 0)]
def am_c124 : List am_E := [(.aload_n 0, 0, 0, 0, 0), (.getfield 63, 1, 10, 8, 2), (.iload_n 1, 4, 0, 0, 0), (.invokevirtual 225, 5, 63, 1, 0), (.ifCond .eq 11, 8, 9, 0, 0), (.aload_n 0, 11, 0, 0, 0), (.iload_n 2, 12, 0, 0, 0), (.invokevirtual 105, 13, 137, 1, 0), (.ifCond .ne 9, 16, 13, 0, 0), (.aload_n 0, 19, 0, 0, 0), (.iconst 1, 20, 0, 0, 0), (.invokevirtual 109, 21, 136, 1, 0), (.ireturn, 24, 1, 0, 0), (.iload_n 3, 25, 0, 0, 0), (.iconst 0, 26, 0, 0, 0), (.bipush 100, 27, 0, 0, 0), (.invokestatic 112, 29, 139, 3, 1), (.ifCond .ne 9, 32, 22, 0, 0), (.aload_n 0, 35, 0, 0, 0), (.iconst 2, 36, 0, 0, 0), (.invokevirtual 109, 37, 136, 1, 0), (.ireturn, 40, 1, 0, 0), (.aload_n 0, 41, 0, 0, 0), (.getfield 63, 42, 10, 8, 2), (.iload_n 1, 45, 0, 0, 0), (.iload_n 2, 46, 0, 0, 0), (.iload_n 3, 47, 0, 0, 0), (.invokevirtual 228, 48, 67, 3, 0), (.aload_n 0, 51, 0, 0, 0), (.invokevirtual 123, 52, 135, 0, 0), (.ireturn, 55, 1, 0, 0)]
def am_c125 : List am_E := [(.iload_n 1, 0, 0, 0, 0), (.iconst 0, 1, 0, 0, 0), (.bipush 60, 2, 0, 0, 0), (.invokestatic 112, 4, 139, 3, 1), (.ifCond .eq 13, 7, 10, 0, 0), (.iload_n 2, 10, 0, 0, 0), (.iconst 0, 11, 0, 0, 0), (.bipush 100, 12, 0, 0, 0), (.invokestatic 112, 14, 139, 3, 1), (.ifCond .ne 9, 17, 14, 0, 0), (.aload_n 0, 20, 0, 0, 0), (.iconst 2, 21, 0, 0, 0), (.invokevirtual 109, 22, 136, 1, 0), (.ireturn, 25, 1, 0, 0), (.aload_n 0, 26, 0, 0, 0), (.getfield 63, 27, 10, 8, 2), (.iload_n 1, 30, 0, 0, 0), (.iload_n 2, 31, 0, 0, 0), (.invokevirtual 231, 32, 68, 2, 0), (.aload_n 0, 35, 0, 0, 0), (.invokevirtual 123, 36, 135, 0, 0), (.ireturn, 39, 1, 0, 0)]
def am_c126 : List am_E := [(.aload_n 0, 0, 0, 0, 0), (.getfield 63, 1, 10, 8, 2), (.aload_n 0, 4, 0, 0, 0), (.getfield 92, 5, 10, 13, 0), (.invokevirtual 234, 8, 69, 1, 0), (.istore_n 1, 11, 0, 0, 0), (.iload_n 1, 12, 0, 0, 0), (.iconst (-1), 13, 0, 0, 0), (.if_icmp .ne 12, 14, 13, 0, 0), (.aload_n 0, 17, 0, 0, 0), (.bipush 6, 18, 0, 0, 0), (.invokevirtual 98, 20, 134, 1, 0), (.goto 8, 23, 16, 0, 0), (.aload_n 0, 26, 0, 0, 0), (.iload_n 1, 27, 0, 0, 0), (.invokevirtual 102, 28, 133, 1, 0), (.ireturn, 31, 0, 0, 0)]
def am_c127 : List am_E := [(.aload_n 0, 0, 0, 0, 0), (.getfield 63, 1, 10, 8, 2), (.iload_n 1, 4, 0, 0, 0), (.invokevirtual 225, 5, 63, 1, 0), (.ifCond .ne 9, 8, 9, 0, 0), (.aload_n 0, 11, 0, 0, 0), (.iconst 1, 12, 0, 0, 0), (.invokevirtual 98, 13, 134, 1, 0), (.ireturn, 16, 0, 0, 0), (.aload_n 0, 17, 0, 0, 0), (.getfield 63, 18, 10, 8, 2), (.iload_n 1, 21, 0, 0, 0), (.aload_n 0, 22, 0, 0, 0), (.getfield 92, 23, 10, 13, 0), (.invokevirtual 237, 26, 70, 2, 0), (.istore_n 2, 29, 0, 0, 0), (.iload_n 2, 30, 0, 0, 0), (.iconst (-1), 31, 0, 0, 0), (.if_icmp .ne 12, 32, 23, 0, 0), (.aload_n 0, 35, 0, 0, 0), (.bipush 6, 36, 0, 0, 0), (.invokevirtual 98, 38, 134, 1, 0), (.goto 8, 41, 26, 0, 0), (.aload_n 0, 44, 0, 0, 0), (.iload_n 2, 45, 0, 0, 0), (.invokevirtual 102, 46, 133, 1, 0), (.ireturn, 49, 0, 0, 0)]
def am_c128 : List am_E := [(.aload_n 0, 0, 0, 0, 0), (.getfield 63, 1, 10, 8, 2), (.iload_n 1, 4, 0, 0, 0), (.invokevirtual 225, 5, 63, 1, 0), (.ifCond .ne 9, 8, 9, 0, 0), (.aload_n 0, 11, 0, 0, 0), (.iconst 1, 12, 0, 0, 0), (.invokevirtual 109, 13, 136, 1, 0), (.ireturn, 16, 1, 0, 0), (.iload_n 2, 17, 0, 0, 0), (.iconst 0, 18, 0, 0, 0), (.iconst 2, 19, 0, 0, 0), (.invokestatic 112, 20, 139, 3, 1), (.ifCond .eq 13, 23, 19, 0, 0), (.iload_n 3, 26, 0, 0, 0), (.iconst 0, 27, 0, 0, 0), (.bipush 10, 28, 0, 0, 0), (.invokestatic 112, 30, 139, 3, 1), (.ifCond .ne 9, 33, 23, 0, 0), (.aload_n 0, 36, 0, 0, 0), (.iconst 2, 37, 0, 0, 0), (.invokevirtual 109, 38, 136, 1, 0), (.ireturn, 41, 1, 0, 0), (.aload_n 0, 42, 0, 0, 0), (.getfield 70, 43, 10, 9, 2), (.invokevirtual 240, 46, 6, 0, 0), (.ifCond .eq 9, 49, 31, 0, 0), (.aload_n 0, 52, 0, 0, 0), (.iconst 3, 53, 0, 0, 0), (.invokevirtual 109, 54, 136, 1, 0), (.ireturn, 57, 1, 0, 0), (.aload_n 0, 58, 0, 0, 0), (.getfield 70, 59, 10, 9, 2), (.iload_n 1, 62, 0, 0, 0), (.iload_n 2, 63, 0, 0, 0), (.iload_n 3, 64, 0, 0, 0), (.invokevirtual 241, 65, 7, 3, 0), (.aload_n 0, 68, 0, 0, 0), (.invokevirtual 123, 69, 135, 0, 0), (.ireturn, 72, 1, 0, 0)]
def am_c129 : List am_E := [(.iload_n 1, 0, 0, 0, 0), (.iconst 0, 1, 0, 0, 0), (.iconst 2, 2, 0, 0, 0), (.invokestatic 112, 3, 139, 3, 1), (.ifCond .ne 9, 6, 9, 0, 0), (.aload_n 0, 9, 0, 0, 0), (.iconst 2, 10, 0, 0, 0), (.invokevirtual 109, 11, 136, 1, 0), (.ireturn, 14, 1, 0, 0), (.aload_n 0, 15, 0, 0, 0), (.getfield 70, 16, 10, 9, 2), (.aload_n 0, 19, 0, 0, 0), (.getfield 77, 20, 10, 10, 2), (.iload_n 1, 23, 0, 0, 0), (.invokevirtual 242, 24, 8, 2, 0), (.aload_n 0, 27, 0, 0, 0), (.invokevirtual 123, 28, 135, 0, 0), (.ireturn, 31, 1, 0, 0)]
def am_c130 : List am_E := [(.aload_n 0, 0, 0, 0, 0), (.getfield 63, 1, 10, 8, 2), (.iload_n 1, 4, 0, 0, 0), (.invokevirtual 225, 5, 63, 1, 0), (.ifCond .ne 9, 8, 9, 0, 0), (.aload_n 0, 11, 0, 0, 0), (.iconst 1, 12, 0, 0, 0), (.invokevirtual 109, 13, 136, 1, 0), (.ireturn, 16, 1, 0, 0), (.aload_n 0, 17, 0, 0, 0), (.getfield 70, 18, 10, 9, 2), (.aload_n 0, 21, 0, 0, 0), (.getfield 77, 22, 10, 10, 2), (.iload_n 1, 25, 0, 0, 0), (.invokevirtual 246, 26, 9, 2, 0), (.ifCond .ne 9, 29, 20, 0, 0), (.aload_n 0, 32, 0, 0, 0), (.iconst 5, 33, 0, 0, 0), (.invokevirtual 109, 34, 136, 1, 0), (.ireturn, 37, 1, 0, 0), (.aload_n 0, 38, 0, 0, 0), (.invokevirtual 123, 39, 135, 0, 0), (.ireturn, 42, 1, 0, 0)]
def am_c131 : List am_E := [(.aload_n 0, 0, 0, 0, 0), (.getfield 77, 1, 10, 10, 2), (.invokevirtual 250, 4, 2, 0, 0), (.lreturn, 7, 0, 0, 0)]
def am_c132 : List am_E := [(.aload_n 0, 0, 0, 0, 0), (.getfield 77, 1, 10, 10, 2), (.invokevirtual 254, 4, 3, 0, 0), (.lreturn, 7, 0, 0, 0)]
def am_c133 : List am_E := [(.aload_n 0, 0, 0, 0, 0), (.iconst 0, 1, 0, 0, 0), (.putfield 88, 2, 10, 12, 0), (.iload_n 1, 5, 0, 0, 0), (.ireturn, 6, 0, 0, 0)]
def am_c134 : List am_E := [(.aload_n 0, 0, 0, 0, 0), (.iload_n 1, 1, 0, 0, 0), (.putfield 88, 2, 10, 12, 0), (.iconst (-1), 5, 0, 0, 0), (.ireturn, 6, 0, 0, 0)]
def am_c135 : List am_E := [(.aload_n 0, 0, 0, 0, 0), (.iconst 0, 1, 0, 0, 0), (.putfield 88, 2, 10, 12, 0), (.iconst 1, 5, 0, 0, 0), (.ireturn, 6, 1, 0, 0)]
def am_c136 : List am_E := [(.aload_n 0, 0, 0, 0, 0), (.iload_n 1, 1, 0, 0, 0), (.putfield 88, 2, 10, 12, 0), (.iconst 0, 5, 0, 0, 0), (.ireturn, 6, 1, 0, 0)]
def am_c137 : List am_E := [(.iload_n 1, 0, 0, 0, 0), (.ifCond .lt 15, 1, 8, 0, 0), (.iload_n 1, 4, 0, 0, 0), (.aload_n 0, 5, 0, 0, 0), (.getfield 92, 6, 10, 13, 0), (.if_icmp .ge 7, 9, 8, 0, 0), (.iconst 1, 12, 0, 0, 0), (.goto 4, 13, 9, 0, 0), (.iconst 0, 16, 0, 0, 0), (.ireturn, 17, 1, 0, 0)]
def am_c138 : List am_E := [(.iload_n 0, 0, 0, 0, 0), (.iconst 0, 1, 0, 0, 0), (.sipush 999, 2, 0, 0, 0), (.invokestatic 112, 5, 139, 3, 1), (.ireturn, 8, 1, 0, 0)]
def am_c139 : List am_E := [(.iload_n 0, 0, 0, 0, 0), (.iload_n 1, 1, 0, 0, 0), (.if_icmp .lt 12, 2, 8, 0, 0), (.iload_n 0, 5, 0, 0, 0), (.iload_n 2, 6, 0, 0, 0), (.if_icmp .gt 7, 7, 8, 0, 0), (.iconst 1, 10, 0, 0, 0), (.goto 4, 11, 9, 0, 0), (.iconst 0, 14, 0, 0, 0), (.ireturn, 15, 1, 0, 0)]
def am_c140 : List am_E := [(.iconst 0, 0, 0, 0, 0), (.iload_n 0, 1, 0, 0, 0), (.iload_n 1, 2, 0, 0, 0), (.invokestatic 257, 3, 1002, 2, 1), (.invokestatic 262, 6, 1001, 2, 1), (.ireturn, 9, 0, 0, 0)]
def am_c141 : List am_E := [(.aload_n 0, 0, 0, 0, 0), (.invokespecial 1, 1, 1000, 0, 2), (.aload_n 0, 4, 0, 0, 0), (.lconst 1, 5, 0, 0, 0), (.putfield 7, 6, 11, 3, 1), (.aload_n 0, 9, 0, 0, 0), (.bipush 48, 10, 0, 0, 0), (.newarray .int, 12, 0, 0, 0), (.putfield 13, 14, 11, 6, 2), (.aload_n 0, 17, 0, 0, 0), (.bipush 8, 18, 0, 0, 0), (.newarray .int, 20, 0, 0, 0), (.putfield 17, 22, 11, 7, 2), (.aload_n 0, 25, 0, 0, 0), (.bipush 8, 26, 0, 0, 0), (.newarray .int, 28, 0, 0, 0), (.putfield 20, 30, 11, 8, 2), (.aload_n 0, 33, 0, 0, 0), (.sipush 1000, 34, 0, 0, 0), (.newarray .int, 37, 0, 0, 0), (.putfield 23, 39, 11, 9, 2), (.aload_n 0, 42, 0, 0, 0), (.sipush 1000, 43, 0, 0, 0), (.newarray .int, 46, 0, 0, 0), (.putfield 26, 48, 11, 10, 2), (.aload_n 0, 51, 0, 0, 0), (.sipush 1000, 52, 0, 0, 0), (.newarray .int, 55, 0, 0, 0), (.putfield 29, 57, 11, 11, 2), (.aload_n 0, 60, 0, 0, 0), (.sipush 1000, 61, 0, 0, 0), (.newarray .int, 64, 0, 0, 0), (.putfield 32, 66, 11, 12, 2), (.aload_n 0, 69, 0, 0, 0), (.bipush 6, 70, 0, 0, 0), (.newarray .int, 72, 0, 0, 0), (.putfield 35, 74, 11, 13, 2), (.aload_n 0, 77, 0, 0, 0), (.sipush 200, 78, 0, 0, 0), (.newarray .int, 81, 0, 0, 0), (.putfield 38, 83, 11, 15, 2), (.aload_n 0, 86, 0, 0, 0), (.sipush 200, 87, 0, 0, 0), (.newarray .int, 90, 0, 0, 0), (.putfield 41, 92, 11, 16, 2), (.aload_n 0, 95, 0, 0, 0), (.sipush 200, 96, 0, 0, 0), (.newarray .int, 99, 0, 0, 0), (.putfield 44, 101, 11, 17, 2), (.aload_n 0, 104, 0, 0, 0), (.bipush 6, 105, 0, 0, 0), (.newarray .int, 107, 0, 0, 0), (.putfield 47, 109, 11, 18, 2), (.aload_n 0, 112, 0, 0, 0), (.bipush 6, 113, 0, 0, 0), (.newarray .int, 115, 0, 0, 0), (.putfield 50, 117, 11, 19, 2), (.aload_n 0, 120, 0, 0, 0), (.bipush 10, 121, 0, 0, 0), (.putfield 53, 123, 11, 22, 0), (.aload_n 0, 126, 0, 0, 0), (.bipush 20, 127, 0, 0, 0), (.putfield 57, 129, 11, 23, 0), (.aload_n 0, 132, 0, 0, 0), (.bipush 8, 133, 0, 0, 0), (.newarray .int, 135, 0, 0, 0), (.putfield 60, 137, 11, 24, 2), (.aload_n 0, 140, 0, 0, 0), (.bipush 8, 141, 0, 0, 0), (.newarray .int, 143, 0, 0, 0), (.putfield 63, 145, 11, 25, 2), (.aload_n 0, 148, 0, 0, 0), (.bipush 64, 149, 0, 0, 0), (.newarray .int, 151, 0, 0, 0), (.putfield 66, 153, 11, 26, 2), (.aload_n 0, 156, 0, 0, 0), (.bipush 8, 157, 0, 0, 0), (.newarray .int, 159, 0, 0, 0), (.putfield 69, 161, 11, 27, 2), (.aload_n 0, 164, 0, 0, 0), (.bipush 8, 165, 0, 0, 0), (.newarray .int, 167, 0, 0, 0), (.putfield 72, 169, 11, 28, 2), (.aload_n 0, 172, 0, 0, 0), (.bipush 9, 173, 0, 0, 0), (.newarray .int, 175, 0, 0, 0), (.putfield 75, 177, 11, 29, 2), (.aload_n 0, 180, 0, 0, 0), (.bipush 100, 181, 0, 0, 0), (.newarray .int, 183, 0, 0, 0), (.putfield 78, 185, 11, 31, 2), (.aload_n 0, 188, 0, 0, 0), (.bipush 100, 189, 0, 0, 0), (.newarray .int, 191, 0, 0, 0), (.putfield 81, 193, 11, 32, 2), (.aload_n 0, 196, 0, 0, 0), (.bipush 100, 197, 0, 0, 0), (.newarray .int, 199, 0, 0, 0), (.putfield 84, 201, 11, 33, 2), (.aload_n 0, 204, 0, 0, 0), (.sipush 400, 205, 0, 0, 0), (.newarray .byte, 208, 0, 0, 0), (.putfield 87, 210, 11, 34, 2), (.aload_n 0, 213, 0, 0, 0), (.iconst (-1), 214, 0, 0, 0), (.putfield 91, 215, 11, 37, 0), (.aload_n 0, 218, 0, 0, 0), (.iconst (-1), 219, 0, 0, 0), (.putfield 94, 220, 11, 38, 0), (.aload_n 0, 223, 0, 0, 0), (.bipush 8, 224, 0, 0, 0), (.newarray .int, 226, 0, 0, 0), (.putfield 97, 228, 11, 49, 2), (.aload_n 0, 231, 0, 0, 0), (.bipush 48, 232, 0, 0, 0), (.newarray .int, 234, 0, 0, 0), (.putfield 100, 236, 11, 50, 2), (.aload_n 0, 239, 0, 0, 0), (.bipush 48, 240, 0, 0, 0), (.newarray .int, 242, 0, 0, 0), (.putfield 103, 244, 11, 51, 2), (.aload_n 0, 247, 0, 0, 0), (.bipush 48, 248, 0, 0, 0), (.newarray .int, 250, 0, 0, 0), (.putfield 106, 252, 11, 52, 2), (.aload_n 0, 255, 0, 0, 0), (.bipush 8, 256, 0, 0, 0), (.newarray .int, 258, 0, 0, 0), (.putfield 109, 260, 11, 53, 2), (.aload_n 0, 263, 0, 0, 0), (.bipush 48, 264, 0, 0, 0), (.newarray .int, 266, 0, 0, 0), (.putfield 112, 268, 11, 54, 2), (.aload_n 0, 271, 0, 0, 0), (.bipush 48, 272, 0, 0, 0), (.newarray .int, 274, 0, 0, 0), (.putfield 115, 276, 11, 55, 2), (.aload_n 0, 279, 0, 0, 0), (.bipush 48, 280, 0, 0, 0), (.newarray .int, 282, 0, 0, 0), (.putfield 118, 284, 11, 56, 2), (.aload_n 0, 287, 0, 0, 0), (.bipush 8, 288, 0, 0, 0), (.newarray .long, 290, 0, 0, 0), (.putfield 121, 292, 11, 57, 2), (.return_, 295, 0, 0, 0)]
def am_c142 : List am_E := [(.aload_n 0, 0, 0, 0, 0), (.iconst 0, 1, 0, 0, 0), (.putfield 125, 2, 11, 1, 0), (.aload_n 0, 5, 0, 0, 0), (.getfield 128, 6, 11, 0, 0), (.ireturn, 9, 0, 0, 0)]
def am_c143 : List am_E := [(.aload_n 0, 0, 0, 0, 0), (.iload_n 1, 1, 0, 0, 0), (.putfield 128, 2, 11, 0, 0), (.iconst (-1), 5, 0, 0, 0), (.ireturn, 6, 0, 0, 0)]
def am_c144 : List am_E := [(.aload_n 0, 0, 0, 0, 0), (.iload_n 1, 1, 0, 0, 0), (.putfield 128, 2, 11, 0, 0), (.iconst 0, 5, 0, 0, 0), (.ireturn, 6, 1, 0, 0)]
def am_c145 : List am_E := [(.iload_n 1, 0, 0, 0, 0), (.ifCond .lt 15, 1, 8, 0, 0), (.iload_n 1, 4, 0, 0, 0), (.aload_n 0, 5, 0, 0, 0), (.getfield 131, 6, 11, 4, 0), (.if_icmp .ge 7, 9, 8, 0, 0), (.iconst 1, 12, 0, 0, 0), (.goto 4, 13, 9, 0, 0), (.iconst 0, 16, 0, 0, 0), (.ireturn, 17, 1, 0, 0)]
def am_c146 : List am_E := [(.iload_n 0, 0, 0, 0, 0), (.ifCond .lt 14, 1, 7, 0, 0), (.iload_n 0, 4, 0, 0, 0), (.sipush 1000, 5, 0, 0, 0), (.if_icmp .ge 7, 8, 7, 0, 0), (.iconst 1, 11, 0, 0, 0), (.goto 4, 12, 8, 0, 0), (.iconst 0, 15, 0, 0, 0), (.ireturn, 16, 1, 0, 0)]
def am_c147 : List am_E := [(.iload_n 0, 0, 0, 0, 0), (.ifCond .lt 12, 1, 7, 0, 0), (.iload_n 0, 4, 0, 0, 0), (.iload_n 1, 5, 0, 0, 0), (.if_icmp .gt 7, 6, 7, 0, 0), (.iconst 1, 9, 0, 0, 0), (.goto 4, 10, 8, 0, 0), (.iconst 0, 13, 0, 0, 0), (.ireturn, 14, 1, 0, 0)]
def am_c148 : List am_E := [(.aload_n 0, 0, 0, 0, 0), (.iconst 0, 1, 0, 0, 0), (.putfield 125, 2, 11, 1, 0), (.aload_n 0, 5, 0, 0, 0), (.iconst 0, 6, 0, 0, 0), (.putfield 128, 7, 11, 0, 0), (.aload_n 0, 10, 0, 0, 0), (.getfield 131, 11, 11, 4, 0), (.bipush 8, 14, 0, 0, 0), (.if_icmp .ne 9, 16, 14, 0, 0), (.aload_n 0, 19, 0, 0, 0), (.iconst 3, 20, 0, 0, 0), (.invokevirtual 134, 21, 143, 1, 0), (.ireturn, 24, 0, 0, 0), (.bipush 6, 25, 0, 0, 0), (.aload_n 0, 27, 0, 0, 0), (.getfield 131, 28, 11, 4, 0), (.imul, 31, 0, 0, 0), (.istore_n 1, 32, 0, 0, 0), (.aload_n 0, 33, 0, 0, 0), (.getfield 13, 34, 11, 6, 2), (.iload_n 1, 37, 0, 0, 0), (.bipush 40, 38, 0, 0, 0), (.iastore, 40, 0, 0, 0), (.aload_n 0, 41, 0, 0, 0), (.getfield 13, 42, 11, 6, 2), (.iload_n 1, 45, 0, 0, 0), (.iconst 1, 46, 0, 0, 0), (.iadd, 47, 0, 0, 0), (.bipush 40, 48, 0, 0, 0), (.iastore, 50, 0, 0, 0), (.aload_n 0, 51, 0, 0, 0), (.getfield 13, 52, 11, 6, 2), (.iload_n 1, 55, 0, 0, 0), (.iconst 2, 56, 0, 0, 0), (.iadd, 57, 0, 0, 0), (.bipush 40, 58, 0, 0, 0), (.iastore, 60, 0, 0, 0), (.aload_n 0, 61, 0, 0, 0), (.getfield 13, 62, 11, 6, 2), (.iload_n 1, 65, 0, 0, 0), (.iconst 3, 66, 0, 0, 0), (.iadd, 67, 0, 0, 0), (.bipush 12, 68, 0, 0, 0), (.iastore, 70, 0, 0, 0), (.aload_n 0, 71, 0, 0, 0), (.getfield 13, 72, 11, 6, 2), (.iload_n 1, 75, 0, 0, 0), (.iconst 4, 76, 0, 0, 0), (.iadd, 77, 0, 0, 0), (.bipush 30, 78, 0, 0, 0), (.iastore, 80, 0, 0, 0), (.aload_n 0, 81, 0, 0, 0), (.getfield 13, 82, 11, 6, 2), (.iload_n 1, 85, 0, 0, 0), (.iconst 5, 86, 0, 0, 0), (.iadd, 87, 0, 0, 0), (.iconst 0, 88, 0, 0, 0), (.iastore, 89, 0, 0, 0), (.aload_n 0, 90, 0, 0, 0), (.getfield 17, 91, 11, 7, 2), (.aload_n 0, 94, 0, 0, 0), (.getfield 131, 95, 11, 4, 0), (.iconst 0, 98, 0, 0, 0), (.iastore, 99, 0, 0, 0), (.aload_n 0, 100, 0, 0, 0), (.getfield 20, 101, 11, 8, 2), (.aload_n 0, 104, 0, 0, 0), (.getfield 131, 105, 11, 4, 0), (.iconst 0, 108, 0, 0, 0), (.iastore, 109, 0, 0, 0), (.aload_n 0, 110, 0, 0, 0), (.dup, 111, 0, 0, 0), (.getfield 131, 112, 11, 4, 0), (.iconst 1, 115, 0, 0, 0), (.iadd, 116, 0, 0, 0), (.putfield 131, 117, 11, 4, 0), (.aload_n 0, 120, 0, 0, 0), (.getfield 131, 121, 11, 4, 0), (.iconst 1, 124, 0, 0, 0), (.isub, 125, 0, 0, 0), (.ireturn, 126, 0, 0, 0)]
def am_c149 : List am_E := [(.aload_n 0, 0, 0, 0, 0), (.iconst 0, 1, 0, 0, 0), (.putfield 125, 2, 11, 1, 0), (.aload_n 0, 5, 0, 0, 0), (.iconst 0, 6, 0, 0, 0), (.putfield 128, 7, 11, 0, 0), (.aload_n 0, 10, 0, 0, 0), (.iload_n 1, 11, 0, 0, 0), (.invokevirtual 138, 12, 145, 1, 0), (.ifCond .ne 9, 15, 14, 0, 0), (.aload_n 0, 18, 0, 0, 0), (.iconst 1, 19, 0, 0, 0), (.invokevirtual 142, 20, 144, 1, 0), (.ireturn, 23, 1, 0, 0), (.iload_n 2, 24, 0, 0, 0), (.bipush 100, 25, 0, 0, 0), (.invokestatic 145, 27, 147, 2, 1), (.ifCond .eq 52, 30, 38, 0, 0), (.iload_n 3, 33, 0, 0, 0), (.bipush 100, 34, 0, 0, 0), (.invokestatic 145, 36, 147, 2, 1), (.ifCond .eq 43, 39, 38, 0, 0), (.iload 4, 42, 0, 0, 0), (.bipush 100, 44, 0, 0, 0), (.invokestatic 145, 46, 147, 2, 1), (.ifCond .eq 33, 49, 38, 0, 0), (.iload 5, 52, 0, 0, 0), (.bipush 60, 54, 0, 0, 0), (.invokestatic 145, 56, 147, 2, 1), (.ifCond .eq 23, 59, 38, 0, 0), (.iload 6, 62, 0, 0, 0), (.bipush 100, 64, 0, 0, 0), (.invokestatic 145, 66, 147, 2, 1), (.ifCond .eq 13, 69, 38, 0, 0), (.iload 7, 72, 0, 0, 0), (.bipush 100, 74, 0, 0, 0), (.invokestatic 145, 76, 147, 2, 1), (.ifCond .ne 9, 79, 42, 0, 0), (.aload_n 0, 82, 0, 0, 0), (.iconst 2, 83, 0, 0, 0), (.invokevirtual 142, 84, 144, 1, 0), (.ireturn, 87, 1, 0, 0), (.aload_n 0, 88, 0, 0, 0), (.getfield 13, 89, 11, 6, 2), (.bipush 6, 92, 0, 0, 0), (.iload_n 1, 94, 0, 0, 0), (.imul, 95, 0, 0, 0), (.iload_n 2, 96, 0, 0, 0), (.iastore, 97, 0, 0, 0), (.aload_n 0, 98, 0, 0, 0), (.getfield 13, 99, 11, 6, 2), (.bipush 6, 102, 0, 0, 0), (.iload_n 1, 104, 0, 0, 0), (.imul, 105, 0, 0, 0), (.iconst 1, 106, 0, 0, 0), (.iadd, 107, 0, 0, 0), (.iload_n 3, 108, 0, 0, 0), (.iastore, 109, 0, 0, 0), (.aload_n 0, 110, 0, 0, 0), (.getfield 13, 111, 11, 6, 2), (.bipush 6, 114, 0, 0, 0), (.iload_n 1, 116, 0, 0, 0), (.imul, 117, 0, 0, 0), (.iconst 2, 118, 0, 0, 0), (.iadd, 119, 0, 0, 0), (.iload 4, 120, 0, 0, 0), (.iastore, 122, 0, 0, 0), (.aload_n 0, 123, 0, 0, 0), (.getfield 13, 124, 11, 6, 2), (.bipush 6, 127, 0, 0, 0), (.iload_n 1, 129, 0, 0, 0), (.imul, 130, 0, 0, 0), (.iconst 3, 131, 0, 0, 0), (.iadd, 132, 0, 0, 0), (.iload 5, 133, 0, 0, 0), (.iastore, 135, 0, 0, 0), (.aload_n 0, 136, 0, 0, 0), (.getfield 13, 137, 11, 6, 2), (.bipush 6, 140, 0, 0, 0), (.iload_n 1, 142, 0, 0, 0), (.imul, 143, 0, 0, 0), (.iconst 4, 144, 0, 0, 0), (.iadd, 145, 0, 0, 0), (.iload 6, 146, 0, 0, 0), (.iastore, 148, 0, 0, 0), (.aload_n 0, 149, 0, 0, 0), (.getfield 13, 150, 11, 6, 2), (.bipush 6, 153, 0, 0, 0), (.iload_n 1, 155, 0, 0, 0), (.imul, 156, 0, 0, 0), (.iconst 5, 157, 0, 0, 0), (.iadd, 158, 0, 0, 0), (.iload 7, 159, 0, 0, 0), (.iastore, 161, 0, 0, 0), (.iconst 1, 162, 0, 0, 0), (.ireturn, 163, 1, 0, 0)]
def am_c150 : List am_E := [(.iconst 0, 0, 0, 0, 0), (.istore_n 2, 1, 0, 0, 0), (.iload_n 2, 2, 0, 0, 0), (.bipush 6, 3, 0, 0, 0), (.if_icmp .ge 26, 5, 19, 0, 0), (.aload_n 0, 8, 0, 0, 0), (.getfield 35, 9, 11, 13, 2), (.iload_n 2, 12, 0, 0, 0), (.aload_n 0, 13, 0, 0, 0), (.getfield 13, 14, 11, 6, 2), (.bipush 6, 17, 0, 0, 0), (.iload_n 1, 19, 0, 0, 0), (.imul, 20, 0, 0, 0), (.iload_n 2, 21, 0, 0, 0), (.iadd, 22, 0, 0, 0), (.iaload, 23, 0, 0, 0), (.iastore, 24, 0, 0, 0), (.iinc 2 1, 25, 0, 0, 0), (.goto (-26), 28, 2, 0, 0), (.return_, 31, 0, 0, 0)]
def am_c151 : List am_E := [(.aload_n 0, 0, 0, 0, 0), (.getfield 35, 1, 11, 13, 2), (.iconst 4, 4, 0, 0, 0), (.iaload, 5, 0, 0, 0), (.aload_n 0, 6, 0, 0, 0), (.getfield 35, 7, 11, 13, 2), (.iconst 5, 10, 0, 0, 0), (.iaload, 11, 0, 0, 0), (.iconst 4, 12, 0, 0, 0), (.idiv, 13, 0, 0, 0), (.isub, 14, 0, 0, 0), (.istore_n 1, 15, 0, 0, 0), (.aload_n 0, 16, 0, 0, 0), (.getfield 35, 17, 11, 13, 2), (.iconst 0, 20, 0, 0, 0), (.iaload, 21, 0, 0, 0), (.bipush 50, 22, 0, 0, 0), (.if_icmp .le 17, 24, 29, 0, 0), (.iload_n 1, 27, 0, 0, 0), (.aload_n 0, 28, 0, 0, 0), (.getfield 35, 29, 11, 13, 2), (.iconst 0, 32, 0, 0, 0), (.iaload, 33, 0, 0, 0), (.bipush 50, 34, 0, 0, 0), (.isub, 36, 0, 0, 0), (.iconst 2, 37, 0, 0, 0), (.idiv, 38, 0, 0, 0), (.isub, 39, 0, 0, 0), (.istore_n 1, 40, 0, 0, 0), (.aload_n 0, 41, 0, 0, 0), (.getfield 35, 42, 11, 13, 2), (.iconst 3, 45, 0, 0, 0), (.iaload, 46, 0, 0, 0), (.bipush 10, 47, 0, 0, 0), (.if_icmp .le 17, 49, 46, 0, 0), (.iload_n 1, 52, 0, 0, 0), (.aload_n 0, 53, 0, 0, 0), (.getfield 35, 54, 11, 13, 2), (.iconst 3, 57, 0, 0, 0), (.iaload, 58, 0, 0, 0), (.bipush 10, 59, 0, 0, 0), (.isub, 61, 0, 0, 0), (.iconst 4, 62, 0, 0, 0), (.idiv, 63, 0, 0, 0), (.isub, 64, 0, 0, 0), (.istore_n 1, 65, 0, 0, 0), (.iconst 0, 66, 0, 0, 0), (.iload_n 1, 67, 0, 0, 0), (.invokestatic 149, 68, 1001, 2, 1), (.ireturn, 71, 0, 0, 0)]
def am_c152 : List am_E := [(.aload_n 0, 0, 0, 0, 0), (.iconst 0, 1, 0, 0, 0), (.putfield 125, 2, 11, 1, 0), (.aload_n 0, 5, 0, 0, 0), (.iconst 0, 6, 0, 0, 0), (.putfield 128, 7, 11, 0, 0), (.aload_n 0, 10, 0, 0, 0), (.iload_n 1, 11, 0, 0, 0), (.invokevirtual 138, 12, 145, 1, 0), (.ifCond .ne 9, 15, 14, 0, 0), (.aload_n 0, 18, 0, 0, 0), (.iconst 1, 19, 0, 0, 0), (.invokevirtual 134, 20, 143, 1, 0), (.ireturn, 23, 0, 0, 0), (.iload_n 2, 24, 0, 0, 0), (.ifCond .lt 9, 25, 19, 0, 0), (.iload_n 2, 28, 0, 0, 0), (.bipush 6, 29, 0, 0, 0), (.if_icmp .le 9, 31, 23, 0, 0), (.aload_n 0, 34, 0, 0, 0), (.iconst 2, 35, 0, 0, 0), (.invokevirtual 134, 36, 143, 1, 0), (.ireturn, 39, 0, 0, 0), (.aload_n 0, 40, 0, 0, 0), (.iload_n 1, 41, 0, 0, 0), (.invokevirtual 155, 42, 150, 1, 0), (.iload_n 2, 45, 0, 0, 0), (.bipush 6, 46, 0, 0, 0), (.if_icmp .ne 10, 48, 32, 0, 0), (.aload_n 0, 51, 0, 0, 0), (.invokevirtual 159, 52, 151, 0, 0), (.goto 9, 55, 36, 0, 0), (.aload_n 0, 58, 0, 0, 0), (.getfield 35, 59, 11, 13, 2), (.iload_n 2, 62, 0, 0, 0), (.iaload, 63, 0, 0, 0), (.ireturn, 64, 0, 0, 0)]
def am_c153 : List am_E := [(.iconst 0, 0, 0, 0, 0), (.iload_n 1, 1, 0, 0, 0), (.iload_n 0, 2, 0, 0, 0), (.invokestatic 163, 3, 1002, 2, 1), (.invokestatic 149, 6, 1001, 2, 1), (.ireturn, 9, 0, 0, 0)]
def am_c154 : List am_E := [(.aload_n 0, 0, 0, 0, 0), (.getfield 35, 1, 11, 13, 2), (.iload_n 1, 4, 0, 0, 0), (.aload_n 0, 5, 0, 0, 0), (.getfield 35, 6, 11, 13, 2), (.iload_n 1, 9, 0, 0, 0), (.iaload, 10, 0, 0, 0), (.iload_n 2, 11, 0, 0, 0), (.iadd, 12, 0, 0, 0), (.iload_n 1, 13, 0, 0, 0), (.iconst 3, 14, 0, 0, 0), (.if_icmp .ne 8, 15, 14, 0, 0), (.bipush 60, 18, 0, 0, 0), (.goto 5, 20, 15, 0, 0), (.bipush 100, 23, 0, 0, 0), (.invokestatic 166, 25, 153, 2, 1), (.iastore, 28, 0, 0, 0), (.return_, 29, 0, 0, 0)]
def am_c155 : List am_E := [(.iload_n 3, 0, 0, 0, 0), (.iconst 1, 1, 0, 0, 0), (.iand, 2, 0, 0, 0), (.ifCond .le 7, 3, 6, 0, 0), (.iconst 0, 6, 0, 0, 0), (.goto 4, 7, 7, 0, 0), (.iload_n 1, 10, 0, 0, 0), (.istore 5, 11, 0, 0, 0), (.iload_n 3, 13, 0, 0, 0), (.iconst 1, 14, 0, 0, 0), (.iand, 15, 0, 0, 0), (.ifCond .le 9, 16, 16, 0, 0), (.iload_n 2, 19, 0, 0, 0), (.iconst 2, 20, 0, 0, 0), (.idiv, 21, 0, 0, 0), (.goto 4, 22, 17, 0, 0), (.iload_n 2, 25, 0, 0, 0), (.istore 6, 26, 0, 0, 0), (.aload_n 0, 28, 0, 0, 0), (.iconst 0, 29, 0, 0, 0), (.iload 5, 30, 0, 0, 0), (.invokevirtual 169, 32, 154, 2, 0), (.iload_n 3, 35, 0, 0, 0), (.bipush 8, 36, 0, 0, 0), (.iand, 38, 0, 0, 0), (.ifCond .le 10, 39, 30, 0, 0), (.aload_n 0, 42, 0, 0, 0), (.iconst 0, 43, 0, 0, 0), (.bipush 8, 44, 0, 0, 0), (.invokevirtual 169, 46, 154, 2, 0), (.iconst 0, 49, 0, 0, 0), (.istore 7, 50, 0, 0, 0), (.iload 7, 52, 0, 0, 0), (.iconst 2, 54, 0, 0, 0), (.if_icmp .ge 71, 55, 74, 0, 0), (.aload_n 0, 58, 0, 0, 0), (.getfield 35, 59, 11, 13, 2), (.iload 7, 62, 0, 0, 0), (.iaload, 64, 0, 0, 0), (.aload_n 0, 65, 0, 0, 0), (.getfield 35, 66, 11, 13, 2), (.iload 7, 69, 0, 0, 0), (.iconst 1, 71, 0, 0, 0), (.iadd, 72, 0, 0, 0), (.iaload, 73, 0, 0, 0), (.if_icmp .gt 6, 74, 47, 0, 0), (.goto 43, 77, 72, 0, 0), (.aload_n 0, 80, 0, 0, 0), (.getfield 35, 81, 11, 13, 2), (.iload 7, 84, 0, 0, 0), (.iaload, 86, 0, 0, 0), (.aload_n 0, 87, 0, 0, 0), (.getfield 35, 88, 11, 13, 2), (.iload 7, 91, 0, 0, 0), (.iconst 1, 93, 0, 0, 0), (.iadd, 94, 0, 0, 0), (.iaload, 95, 0, 0, 0), (.isub, 96, 0, 0, 0), (.iconst 4, 97, 0, 0, 0), (.idiv, 98, 0, 0, 0), (.istore 8, 99, 0, 0, 0), (.aload_n 0, 101, 0, 0, 0), (.iload 7, 102, 0, 0, 0), (.iload 8, 104, 0, 0, 0), (.ineg, 106, 0, 0, 0), (.invokevirtual 169, 107, 154, 2, 0), (.aload_n 0, 110, 0, 0, 0), (.iload 7, 111, 0, 0, 0), (.iconst 1, 113, 0, 0, 0), (.iadd, 114, 0, 0, 0), (.iload 8, 115, 0, 0, 0), (.invokevirtual 169, 117, 154, 2, 0), (.iinc 7 1, 120, 0, 0, 0), (.goto (-71), 123, 32, 0, 0), (.aload_n 0, 126, 0, 0, 0), (.iconst 2, 127, 0, 0, 0), (.aload_n 0, 128, 0, 0, 0), (.getfield 35, 129, 11, 13, 2), (.iconst 2, 132, 0, 0, 0), (.iaload, 133, 0, 0, 0), (.bipush 10, 134, 0, 0, 0), (.idiv, 136, 0, 0, 0), (.ineg, 137, 0, 0, 0), (.invokevirtual 169, 138, 154, 2, 0), (.aload_n 0, 141, 0, 0, 0), (.iconst 0, 142, 0, 0, 0), (.iload 6, 143, 0, 0, 0), (.aload_n 0, 145, 0, 0, 0), (.getfield 35, 146, 11, 13, 2), (.iconst 3, 149, 0, 0, 0), (.iaload, 150, 0, 0, 0), (.bipush 12, 151, 0, 0, 0), (.idiv, 153, 0, 0, 0), (.iadd, 154, 0, 0, 0), (.ineg, 155, 0, 0, 0), (.invokevirtual 169, 156, 154, 2, 0), (.aload_n 0, 159, 0, 0, 0), (.iconst 1, 160, 0, 0, 0), (.aload_n 0, 161, 0, 0, 0), (.getfield 35, 162, 11, 13, 2), (.iconst 3, 165, 0, 0, 0), (.iaload, 166, 0, 0, 0), (.bipush 20, 167, 0, 0, 0), (.idiv, 169, 0, 0, 0), (.ineg, 170, 0, 0, 0), (.invokevirtual 169, 171, 154, 2, 0), (.iload_n 3, 174, 0, 0, 0), (.iconst 2, 175, 0, 0, 0), (.iand, 176, 0, 0, 0), (.ifCond .le 76, 177, 152, 0, 0), (.aload_n 0, 180, 0, 0, 0), (.getfield 35, 181, 11, 13, 2), (.iconst 0, 184, 0, 0, 0), (.iaload, 185, 0, 0, 0), (.bipush 25, 186, 0, 0, 0), (.if_icmp .lt 47, 188, 142, 0, 0), (.aload_n 0, 191, 0, 0, 0), (.getfield 35, 192, 11, 13, 2), (.iconst 0, 195, 0, 0, 0), (.iaload, 196, 0, 0, 0), (.bipush 60, 197, 0, 0, 0), (.if_icmp .gt 36, 199, 142, 0, 0), (.aload_n 0, 202, 0, 0, 0), (.getfield 35, 203, 11, 13, 2), (.iconst 1, 206, 0, 0, 0), (.iaload, 207, 0, 0, 0), (.bipush 70, 208, 0, 0, 0), (.if_icmp .gt 25, 210, 142, 0, 0), (.aload_n 0, 213, 0, 0, 0), (.iconst 4, 214, 0, 0, 0), (.iconst 1, 215, 0, 0, 0), (.bipush 100, 216, 0, 0, 0), (.aload_n 0, 218, 0, 0, 0), (.getfield 35, 219, 11, 13, 2), (.iconst 4, 222, 0, 0, 0), (.iaload, 223, 0, 0, 0), (.isub, 224, 0, 0, 0), (.bipush 8, 225, 0, 0, 0), (.idiv, 227, 0, 0, 0), (.iadd, 228, 0, 0, 0), (.invokevirtual 169, 229, 154, 2, 0), (.goto 21, 232, 152, 0, 0), (.aload_n 0, 235, 0, 0, 0), (.getfield 35, 236, 11, 13, 2), (.iconst 0, 239, 0, 0, 0), (.iaload, 240, 0, 0, 0), (.bipush 60, 241, 0, 0, 0), (.if_icmp .le 10, 243, 152, 0, 0), (.aload_n 0, 246, 0, 0, 0), (.iconst 4, 247, 0, 0, 0), (.bipush (-6), 248, 0, 0, 0), (.invokevirtual 169, 250, 154, 2, 0), (.aload_n 0, 253, 0, 0, 0), (.getfield 35, 254, 11, 13, 2), (.iconst 0, 257, 0, 0, 0), (.iaload, 258, 0, 0, 0), (.bipush 70, 259, 0, 0, 0), (.if_icmp .le 9, 261, 162, 0, 0), (.aload_n 0, 264, 0, 0, 0), (.iconst 4, 265, 0, 0, 0), (.iconst (-1), 266, 0, 0, 0), (.invokevirtual 169, 267, 154, 2, 0), (.aload_n 0, 270, 0, 0, 0), (.getfield 35, 271, 11, 13, 2), (.iconst 5, 274, 0, 0, 0), (.iaload, 275, 0, 0, 0), (.bipush 50, 276, 0, 0, 0), (.if_icmp .gt 61, 278, 200, 0, 0), (.aload_n 0, 281, 0, 0, 0), (.iconst 3, 282, 0, 0, 0), (.aload_n 0, 283, 0, 0, 0), (.getfield 35, 284, 11, 13, 2), (.iconst 1, 287, 0, 0, 0), (.iaload, 288, 0, 0, 0), (.bipush 20, 289, 0, 0, 0), (.if_icmp .lt 18, 291, 184, 0, 0), (.aload_n 0, 294, 0, 0, 0), (.getfield 35, 295, 11, 13, 2), (.iconst 1, 298, 0, 0, 0), (.iaload, 299, 0, 0, 0), (.bipush 80, 300, 0, 0, 0), (.if_icmp .gt 7, 302, 184, 0, 0), (.iconst 2, 305, 0, 0, 0), (.goto 30, 306, 199, 0, 0), (.aload_n 0, 309, 0, 0, 0), (.getfield 35, 310, 11, 13, 2), (.iconst 1, 313, 0, 0, 0), (.iaload, 314, 0, 0, 0), (.bipush 10, 315, 0, 0, 0), (.if_icmp .lt 18, 317, 198, 0, 0), (.aload_n 0, 320, 0, 0, 0), (.getfield 35, 321, 11, 13, 2), (.iconst 1, 324, 0, 0, 0), (.iaload, 325, 0, 0, 0), (.bipush 90, 326, 0, 0, 0), (.if_icmp .gt 7, 328, 198, 0, 0), (.iconst 1, 331, 0, 0, 0), (.goto 4, 332, 199, 0, 0), (.iconst (-1), 335, 0, 0, 0), (.invokevirtual 169, 336, 154, 2, 0), (.iload_n 3, 339, 0, 0, 0), (.iconst 4, 340, 0, 0, 0), (.iand, 341, 0, 0, 0), (.ifCond .le 20, 342, 214, 0, 0), (.aload_n 0, 345, 0, 0, 0), (.getfield 35, 346, 11, 13, 2), (.iconst 3, 349, 0, 0, 0), (.bipush 6, 350, 0, 0, 0), (.aload_n 0, 352, 0, 0, 0), (.getfield 35, 353, 11, 13, 2), (.iconst 3, 356, 0, 0, 0), (.iaload, 357, 0, 0, 0), (.invokestatic 163, 358, 1002, 2, 1), (.iastore, 361, 0, 0, 0), (.iload_n 3, 362, 0, 0, 0), (.bipush 16, 363, 0, 0, 0), (.iand, 365, 0, 0, 0), (.ifCond .le 15, 366, 224, 0, 0), (.iload 4, 369, 0, 0, 0), (.ifCond .ne 10, 371, 224, 0, 0), (.aload_n 0, 374, 0, 0, 0), (.iconst 5, 375, 0, 0, 0), (.bipush (-3), 376, 0, 0, 0), (.invokevirtual 169, 378, 154, 2, 0), (.aload_n 0, 381, 0, 0, 0), (.iconst 5, 382, 0, 0, 0), (.iload 4, 383, 0, 0, 0), (.bipush 40, 385, 0, 0, 0), (.idiv, 387, 0, 0, 0), (.invokevirtual 169, 388, 154, 2, 0), (.aload_n 0, 391, 0, 0, 0), (.iconst 4, 392, 0, 0, 0), (.iload 4, 393, 0, 0, 0), (.sipush 200, 395, 0, 0, 0), (.idiv, 398, 0, 0, 0), (.ineg, 399, 0, 0, 0), (.invokevirtual 169, 400, 154, 2, 0), (.return_, 403, 0, 0, 0)]
def am_c156 : List am_E := [(.aload_n 0, 0, 0, 0, 0), (.iconst 0, 1, 0, 0, 0), (.putfield 125, 2, 11, 1, 0), (.aload_n 0, 5, 0, 0, 0), (.iconst 0, 6, 0, 0, 0), (.putfield 128, 7, 11, 0, 0), (.iload_n 1, 10, 0, 0, 0), (.invokestatic 173, 11, 146, 1, 1), (.ifCond .eq 21, 14, 17, 0, 0), (.iload_n 2, 17, 0, 0, 0), (.bipush 100, 18, 0, 0, 0), (.invokestatic 145, 20, 147, 2, 1), (.ifCond .eq 12, 23, 17, 0, 0), (.iload_n 3, 26, 0, 0, 0), (.bipush 20, 27, 0, 0, 0), (.invokestatic 145, 29, 147, 2, 1), (.ifCond .ne 9, 32, 21, 0, 0), (.aload_n 0, 35, 0, 0, 0), (.iconst 2, 36, 0, 0, 0), (.invokevirtual 142, 37, 144, 1, 0), (.ireturn, 40, 1, 0, 0), (.iload_n 1, 41, 0, 0, 0), (.aload_n 0, 42, 0, 0, 0), (.getfield 176, 43, 11, 5, 0), (.if_icmp .ge 9, 46, 29, 0, 0), (.aload_n 0, 49, 0, 0, 0), (.iconst 4, 50, 0, 0, 0), (.invokevirtual 142, 51, 144, 1, 0), (.ireturn, 54, 1, 0, 0), (.iload 4, 55, 0, 0, 0), (.ifCond .eq 20, 57, 42, 0, 0), (.aload_n 0, 60, 0, 0, 0), (.getfield 29, 61, 11, 11, 2), (.iload_n 1, 64, 0, 0, 0), (.iload_n 2, 65, 0, 0, 0), (.iastore, 66, 0, 0, 0), (.aload_n 0, 67, 0, 0, 0), (.getfield 32, 68, 11, 12, 2), (.iload_n 1, 71, 0, 0, 0), (.iload_n 3, 72, 0, 0, 0), (.iastore, 73, 0, 0, 0), (.goto 17, 74, 52, 0, 0), (.aload_n 0, 77, 0, 0, 0), (.getfield 23, 78, 11, 9, 2), (.iload_n 1, 81, 0, 0, 0), (.iload_n 2, 82, 0, 0, 0), (.iastore, 83, 0, 0, 0), (.aload_n 0, 84, 0, 0, 0), (.getfield 26, 85, 11, 10, 2), (.iload_n 1, 88, 0, 0, 0), (.iload_n 3, 89, 0, 0, 0), (.iastore, 90, 0, 0, 0), (.iconst 1, 91, 0, 0, 0), (.ireturn, 92, 1, 0, 0)]
def am_c157 : List am_E := [(.aload_n 0, 0, 0, 0, 0), (.iconst 0, 1, 0, 0, 0), (.putfield 125, 2, 11, 1, 0), (.aload_n 0, 5, 0, 0, 0), (.iconst 0, 6, 0, 0, 0), (.putfield 128, 7, 11, 0, 0), (.aload_n 0, 10, 0, 0, 0), (.iload_n 1, 11, 0, 0, 0), (.invokevirtual 138, 12, 145, 1, 0), (.ifCond .ne 9, 15, 14, 0, 0), (.aload_n 0, 18, 0, 0, 0), (.iconst 1, 19, 0, 0, 0), (.invokevirtual 142, 20, 144, 1, 0), (.ireturn, 23, 1, 0, 0), (.iload_n 2, 24, 0, 0, 0), (.bipush 31, 25, 0, 0, 0), (.invokestatic 145, 27, 147, 2, 1), (.ifCond .ne 9, 30, 22, 0, 0), (.aload_n 0, 33, 0, 0, 0), (.iconst 2, 34, 0, 0, 0), (.invokevirtual 142, 35, 144, 1, 0), (.ireturn, 38, 1, 0, 0), (.aload_n 0, 39, 0, 0, 0), (.getfield 17, 40, 11, 7, 2), (.iload_n 1, 43, 0, 0, 0), (.iload_n 2, 44, 0, 0, 0), (.iastore, 45, 0, 0, 0), (.iconst 1, 46, 0, 0, 0), (.ireturn, 47, 1, 0, 0)]
def am_c158 : List am_E := [(.aload_n 0, 0, 0, 0, 0), (.iconst 0, 1, 0, 0, 0), (.putfield 125, 2, 11, 1, 0), (.aload_n 0, 5, 0, 0, 0), (.iconst 0, 6, 0, 0, 0), (.putfield 128, 7, 11, 0, 0), (.aload_n 0, 10, 0, 0, 0), (.iload_n 1, 11, 0, 0, 0), (.invokevirtual 138, 12, 145, 1, 0), (.ifCond .ne 9, 15, 14, 0, 0), (.aload_n 0, 18, 0, 0, 0), (.iconst 1, 19, 0, 0, 0), (.invokevirtual 142, 20, 144, 1, 0), (.ireturn, 23, 1, 0, 0), (.iload_n 2, 24, 0, 0, 0), (.sipush 1000, 25, 0, 0, 0), (.invokestatic 145, 28, 147, 2, 1), (.ifCond .eq 17, 31, 26, 0, 0), (.aload_n 0, 34, 0, 0, 0), (.getfield 20, 35, 11, 8, 2), (.iload_n 1, 38, 0, 0, 0), (.iaload, 39, 0, 0, 0), (.iload_n 2, 40, 0, 0, 0), (.iadd, 41, 0, 0, 0), (.sipush 1000, 42, 0, 0, 0), (.if_icmp .le 9, 45, 30, 0, 0), (.aload_n 0, 48, 0, 0, 0), (.iconst 2, 49, 0, 0, 0), (.invokevirtual 142, 50, 144, 1, 0), (.ireturn, 53, 1, 0, 0), (.aload_n 0, 54, 0, 0, 0), (.getfield 20, 55, 11, 8, 2), (.iload_n 1, 58, 0, 0, 0), (.dup2, 59, 0, 0, 0), (.iaload, 60, 0, 0, 0), (.iload_n 2, 61, 0, 0, 0), (.iadd, 62, 0, 0, 0), (.iastore, 63, 0, 0, 0), (.iconst 1, 64, 0, 0, 0), (.ireturn, 65, 1, 0, 0)]
def am_c159 : List am_E := [(.aload_n 0, 0, 0, 0, 0), (.iconst 0, 1, 0, 0, 0), (.putfield 125, 2, 11, 1, 0), (.aload_n 0, 5, 0, 0, 0), (.iconst 0, 6, 0, 0, 0), (.putfield 128, 7, 11, 0, 0), (.aload_n 0, 10, 0, 0, 0), (.getfield 176, 11, 11, 5, 0), (.sipush 999, 14, 0, 0, 0), (.if_icmp .ne 10, 17, 14, 0, 0), (.aload_n 0, 20, 0, 0, 0), (.bipush 6, 21, 0, 0, 0), (.invokevirtual 134, 23, 143, 1, 0), (.ireturn, 26, 0, 0, 0), (.iconst 0, 27, 0, 0, 0), (.istore_n 1, 28, 0, 0, 0), (.iload_n 1, 29, 0, 0, 0), (.aload_n 0, 30, 0, 0, 0), (.getfield 131, 31, 11, 4, 0), (.if_icmp .ge 93, 34, 74, 0, 0), (.aload_n 0, 37, 0, 0, 0), (.iload_n 1, 38, 0, 0, 0), (.invokevirtual 155, 39, 150, 1, 0), (.aload_n 0, 42, 0, 0, 0), (.aload_n 0, 43, 0, 0, 0), (.getfield 29, 44, 11, 11, 2), (.aload_n 0, 47, 0, 0, 0), (.getfield 176, 48, 11, 5, 0), (.iaload, 51, 0, 0, 0), (.aload_n 0, 52, 0, 0, 0), (.getfield 32, 53, 11, 12, 2), (.aload_n 0, 56, 0, 0, 0), (.getfield 176, 57, 11, 5, 0), (.iaload, 60, 0, 0, 0), (.aload_n 0, 61, 0, 0, 0), (.getfield 17, 62, 11, 7, 2), (.iload_n 1, 65, 0, 0, 0), (.iaload, 66, 0, 0, 0), (.aload_n 0, 67, 0, 0, 0), (.getfield 20, 68, 11, 8, 2), (.iload_n 1, 71, 0, 0, 0), (.iaload, 72, 0, 0, 0), (.invokevirtual 179, 73, 155, 4, 0), (.iconst 0, 76, 0, 0, 0), (.istore_n 2, 77, 0, 0, 0), (.iload_n 2, 78, 0, 0, 0), (.bipush 6, 79, 0, 0, 0), (.if_icmp .ge 26, 81, 62, 0, 0), (.aload_n 0, 84, 0, 0, 0), (.getfield 13, 85, 11, 6, 2), (.bipush 6, 88, 0, 0, 0), (.iload_n 1, 90, 0, 0, 0), (.imul, 91, 0, 0, 0), (.iload_n 2, 92, 0, 0, 0), (.iadd, 93, 0, 0, 0), (.aload_n 0, 94, 0, 0, 0), (.getfield 35, 95, 11, 13, 2), (.iload_n 2, 98, 0, 0, 0), (.iaload, 99, 0, 0, 0), (.iastore, 100, 0, 0, 0), (.iinc 2 1, 101, 0, 0, 0), (.goto (-26), 104, 45, 0, 0), (.aload_n 0, 107, 0, 0, 0), (.getfield 17, 108, 11, 7, 2), (.iload_n 1, 111, 0, 0, 0), (.iconst 0, 112, 0, 0, 0), (.iastore, 113, 0, 0, 0), (.aload_n 0, 114, 0, 0, 0), (.getfield 20, 115, 11, 8, 2), (.iload_n 1, 118, 0, 0, 0), (.iconst 0, 119, 0, 0, 0), (.iastore, 120, 0, 0, 0), (.iinc 1 1, 121, 0, 0, 0), (.goto (-95), 124, 16, 0, 0), (.aload_n 0, 127, 0, 0, 0), (.dup, 128, 0, 0, 0), (.getfield 176, 129, 11, 5, 0), (.iconst 1, 132, 0, 0, 0), (.iadd, 133, 0, 0, 0), (.putfield 176, 134, 11, 5, 0), (.aload_n 0, 137, 0, 0, 0), (.getfield 176, 138, 11, 5, 0), (.ireturn, 141, 0, 0, 0)]
def am_c160 : List am_E := [(.aload_n 0, 0, 0, 0, 0), (.iconst 0, 1, 0, 0, 0), (.putfield 125, 2, 11, 1, 0), (.aload_n 0, 5, 0, 0, 0), (.iconst 0, 6, 0, 0, 0), (.putfield 128, 7, 11, 0, 0), (.aload_n 0, 10, 0, 0, 0), (.getfield 176, 11, 11, 5, 0), (.ireturn, 14, 0, 0, 0)]
def am_c161 : List am_E := [(.aload_n 0, 0, 0, 0, 0), (.iconst 0, 1, 0, 0, 0), (.putfield 125, 2, 11, 1, 0), (.aload_n 0, 5, 0, 0, 0), (.iconst 0, 6, 0, 0, 0), (.putfield 128, 7, 11, 0, 0), (.aload_n 0, 10, 0, 0, 0), (.iload_n 1, 11, 0, 0, 0), (.invokevirtual 138, 12, 145, 1, 0), (.ifCond .ne 9, 15, 14, 0, 0), (.aload_n 0, 18, 0, 0, 0), (.iconst 1, 19, 0, 0, 0), (.invokevirtual 142, 20, 144, 1, 0), (.ireturn, 23, 1, 0, 0), (.iload_n 2, 24, 0, 0, 0), (.invokestatic 173, 25, 146, 1, 1), (.ifCond .eq 12, 28, 21, 0, 0), (.iload_n 3, 31, 0, 0, 0), (.bipush 100, 32, 0, 0, 0), (.invokestatic 145, 34, 147, 2, 1), (.ifCond .ne 9, 37, 25, 0, 0), (.aload_n 0, 40, 0, 0, 0), (.iconst 2, 41, 0, 0, 0), (.invokevirtual 142, 42, 144, 1, 0), (.ireturn, 45, 1, 0, 0), (.aload_n 0, 46, 0, 0, 0), (.getfield 183, 47, 11, 14, 0), (.sipush 200, 50, 0, 0, 0), (.if_icmp .ne 9, 53, 33, 0, 0), (.aload_n 0, 56, 0, 0, 0), (.iconst 3, 57, 0, 0, 0), (.invokevirtual 142, 58, 144, 1, 0), (.ireturn, 61, 1, 0, 0), (.aload_n 0, 62, 0, 0, 0), (.getfield 38, 63, 11, 15, 2), (.aload_n 0, 66, 0, 0, 0), (.getfield 183, 67, 11, 14, 0), (.iload_n 1, 70, 0, 0, 0), (.iastore, 71, 0, 0, 0), (.aload_n 0, 72, 0, 0, 0), (.getfield 41, 73, 11, 16, 2), (.aload_n 0, 76, 0, 0, 0), (.getfield 183, 77, 11, 14, 0), (.iload_n 2, 80, 0, 0, 0), (.iastore, 81, 0, 0, 0), (.aload_n 0, 82, 0, 0, 0), (.getfield 44, 83, 11, 17, 2), (.aload_n 0, 86, 0, 0, 0), (.getfield 183, 87, 11, 14, 0), (.iload_n 3, 90, 0, 0, 0), (.iastore, 91, 0, 0, 0), (.aload_n 0, 92, 0, 0, 0), (.dup, 93, 0, 0, 0), (.getfield 183, 94, 11, 14, 0), (.iconst 1, 97, 0, 0, 0), (.iadd, 98, 0, 0, 0), (.putfield 183, 99, 11, 14, 0), (.iconst 1, 102, 0, 0, 0), (.ireturn, 103, 1, 0, 0)]
def am_c162 : List am_E := [(.iconst 0, 0, 0, 0, 0), (.istore_n 3, 1, 0, 0, 0), (.iconst 0, 2, 0, 0, 0), (.istore 4, 3, 0, 0, 0), (.iload 4, 5, 0, 0, 0), (.aload_n 0, 7, 0, 0, 0), (.getfield 183, 8, 11, 14, 0), (.if_icmp .ge 39, 11, 28, 0, 0), (.iload_n 3, 14, 0, 0, 0), (.aload_n 0, 15, 0, 0, 0), (.getfield 38, 16, 11, 15, 2), (.iload 4, 19, 0, 0, 0), (.iaload, 21, 0, 0, 0), (.iload_n 1, 22, 0, 0, 0), (.if_icmp .ne 18, 23, 23, 0, 0), (.aload_n 0, 26, 0, 0, 0), (.getfield 41, 27, 11, 16, 2), (.iload 4, 30, 0, 0, 0), (.iaload, 32, 0, 0, 0), (.iload_n 2, 33, 0, 0, 0), (.if_icmp .ne 7, 34, 23, 0, 0), (.iconst 1, 37, 0, 0, 0), (.goto 4, 38, 24, 0, 0), (.iconst 0, 41, 0, 0, 0), (.iadd, 42, 0, 0, 0), (.istore_n 3, 43, 0, 0, 0), (.iinc 4 1, 44, 0, 0, 0), (.goto (-42), 47, 4, 0, 0), (.iload_n 3, 50, 0, 0, 0), (.ireturn, 51, 0, 0, 0)]
def am_c163 : List am_E := [(.iconst 0, 0, 0, 0, 0), (.istore_n 3, 1, 0, 0, 0), (.iconst 0, 2, 0, 0, 0), (.istore 4, 3, 0, 0, 0), (.iload 4, 5, 0, 0, 0), (.aload_n 0, 7, 0, 0, 0), (.getfield 183, 8, 11, 14, 0), (.if_icmp .ge 45, 11, 31, 0, 0), (.iload_n 3, 14, 0, 0, 0), (.aload_n 0, 15, 0, 0, 0), (.getfield 38, 16, 11, 15, 2), (.iload 4, 19, 0, 0, 0), (.iaload, 21, 0, 0, 0), (.iload_n 1, 22, 0, 0, 0), (.if_icmp .ne 24, 23, 26, 0, 0), (.aload_n 0, 26, 0, 0, 0), (.getfield 41, 27, 11, 16, 2), (.iload 4, 30, 0, 0, 0), (.iaload, 32, 0, 0, 0), (.iload_n 2, 33, 0, 0, 0), (.if_icmp .ne 13, 34, 26, 0, 0), (.aload_n 0, 37, 0, 0, 0), (.getfield 44, 38, 11, 17, 2), (.iload 4, 41, 0, 0, 0), (.iaload, 43, 0, 0, 0), (.goto 4, 44, 27, 0, 0), (.iconst 0, 47, 0, 0, 0), (.iadd, 48, 0, 0, 0), (.istore_n 3, 49, 0, 0, 0), (.iinc 4 1, 50, 0, 0, 0), (.goto (-48), 53, 4, 0, 0), (.iload_n 3, 56, 0, 0, 0), (.ireturn, 57, 0, 0, 0)]
def am_c164 : List am_E := [(.lload_n 0, 0, 0, 0, 0), (.invokestatic 186, 1, 1004, 1, 1), (.lstore 4, 4, 0, 0, 0), (.lload_n 2, 6, 0, 0, 0), (.invokestatic 186, 7, 1004, 1, 1), (.lstore 6, 10, 0, 0, 0), (.lload 6, 12, 0, 0, 0), (.lconst 0, 14, 0, 0, 0), (.lcmp, 15, 0, 0, 0), (.ifCond .eq 21, 16, 19, 0, 0), (.lload 4, 19, 0, 0, 0), (.lload 6, 21, 0, 0, 0), (.lrem, 23, 0, 0, 0), (.lstore 8, 24, 0, 0, 0), (.lload 6, 26, 0, 0, 0), (.lstore 4, 28, 0, 0, 0), (.lload 8, 30, 0, 0, 0), (.lstore 6, 32, 0, 0, 0), (.goto (-22), 34, 6, 0, 0), (.lload 4, 37, 0, 0, 0), (.lreturn, 39, 0, 0, 0)]
def am_c165 : List am_E := [(.lload_n 1, 0, 0, 0, 0), (.lload_n 3, 1, 0, 0, 0), (.invokestatic 190, 2, 164, 2, 1), (.lstore 5, 5, 0, 0, 0), (.aload_n 0, 7, 0, 0, 0), (.lload_n 1, 8, 0, 0, 0), (.lload 5, 9, 0, 0, 0), (.ldiv, 11, 0, 0, 0), (.putfield 194, 12, 11, 2, 1), (.aload_n 0, 15, 0, 0, 0), (.lload_n 3, 16, 0, 0, 0), (.lload 5, 17, 0, 0, 0), (.ldiv, 19, 0, 0, 0), (.putfield 7, 20, 11, 3, 1), (.iconst 1, 23, 0, 0, 0), (.ireturn, 24, 1, 0, 0)]
def am_c166 : List am_E := [(.aload_n 0, 0, 0, 0, 0), (.iconst 0, 1, 0, 0, 0), (.putfield 125, 2, 11, 1, 0), (.aload_n 0, 5, 0, 0, 0), (.iconst 0, 6, 0, 0, 0), (.putfield 128, 7, 11, 0, 0), (.aload_n 0, 10, 0, 0, 0), (.iload_n 1, 11, 0, 0, 0), (.invokevirtual 138, 12, 145, 1, 0), (.ifCond .ne 9, 15, 14, 0, 0), (.aload_n 0, 18, 0, 0, 0), (.iconst 1, 19, 0, 0, 0), (.invokevirtual 142, 20, 144, 1, 0), (.ireturn, 23, 1, 0, 0), (.iload_n 2, 24, 0, 0, 0), (.invokestatic 173, 25, 146, 1, 1), (.ifCond .ne 9, 28, 21, 0, 0), (.aload_n 0, 31, 0, 0, 0), (.iconst 2, 32, 0, 0, 0), (.invokevirtual 142, 33, 144, 1, 0), (.ireturn, 36, 1, 0, 0), (.iload_n 1, 37, 0, 0, 0), (.istore_n 3, 38, 0, 0, 0), (.iload_n 3, 39, 0, 0, 0), (.ifCond .lt 18, 40, 32, 0, 0), (.aload_n 0, 43, 0, 0, 0), (.iload_n 3, 44, 0, 0, 0), (.iload_n 2, 45, 0, 0, 0), (.invokevirtual 197, 46, 162, 2, 0), (.ifCond .ne 9, 49, 32, 0, 0), (.iinc 3 (-1), 52, 0, 0, 0), (.goto (-16), 55, 23, 0, 0), (.iload_n 1, 58, 0, 0, 0), (.istore 4, 59, 0, 0, 0), (.iload 4, 61, 0, 0, 0), (.aload_n 0, 63, 0, 0, 0), (.getfield 131, 64, 11, 4, 0), (.if_icmp .ge 19, 67, 45, 0, 0), (.aload_n 0, 70, 0, 0, 0), (.iload 4, 71, 0, 0, 0), (.iload_n 2, 73, 0, 0, 0), (.invokevirtual 197, 74, 162, 2, 0), (.ifCond .ne 9, 77, 45, 0, 0), (.iinc 4 1, 80, 0, 0, 0), (.goto (-22), 83, 34, 0, 0), (.iload_n 3, 86, 0, 0, 0), (.ifCond .ge 18, 87, 55, 0, 0), (.iload 4, 90, 0, 0, 0), (.aload_n 0, 92, 0, 0, 0), (.getfield 131, 93, 11, 4, 0), (.if_icmp .ne 9, 96, 55, 0, 0), (.aload_n 0, 99, 0, 0, 0), (.iconst 5, 100, 0, 0, 0), (.invokevirtual 142, 101, 144, 1, 0), (.ireturn, 104, 1, 0, 0), (.iload_n 3, 105, 0, 0, 0), (.iload_n 1, 106, 0, 0, 0), (.if_icmp .eq 12, 107, 62, 0, 0), (.iload 4, 110, 0, 0, 0), (.aload_n 0, 112, 0, 0, 0), (.getfield 131, 113, 11, 4, 0), (.if_icmp .ne 22, 116, 75, 0, 0), (.aload_n 0, 119, 0, 0, 0), (.aload_n 0, 120, 0, 0, 0), (.iload_n 3, 121, 0, 0, 0), (.iload_n 2, 122, 0, 0, 0), (.invokevirtual 200, 123, 163, 2, 0), (.i2l, 126, 0, 0, 0), (.aload_n 0, 127, 0, 0, 0), (.iload_n 3, 128, 0, 0, 0), (.iload_n 2, 129, 0, 0, 0), (.invokevirtual 197, 130, 162, 2, 0), (.i2l, 133, 0, 0, 0), (.invokevirtual 203, 134, 165, 2, 0), (.ireturn, 137, 1, 0, 0), (.iload_n 3, 138, 0, 0, 0), (.ifCond .ge 24, 139, 90, 0, 0), (.aload_n 0, 142, 0, 0, 0), (.aload_n 0, 143, 0, 0, 0), (.iload 4, 144, 0, 0, 0), (.iload_n 2, 146, 0, 0, 0), (.invokevirtual 200, 147, 163, 2, 0), (.i2l, 150, 0, 0, 0), (.aload_n 0, 151, 0, 0, 0), (.iload 4, 152, 0, 0, 0), (.iload_n 2, 154, 0, 0, 0), (.invokevirtual 197, 155, 162, 2, 0), (.i2l, 158, 0, 0, 0), (.invokevirtual 203, 159, 165, 2, 0), (.ireturn, 162, 1, 0, 0), (.aload_n 0, 163, 0, 0, 0), (.iload_n 3, 164, 0, 0, 0), (.iload_n 2, 165, 0, 0, 0), (.invokevirtual 197, 166, 162, 2, 0), (.i2l, 169, 0, 0, 0), (.lstore 5, 170, 0, 0, 0), (.aload_n 0, 172, 0, 0, 0), (.iload 4, 173, 0, 0, 0), (.iload_n 2, 175, 0, 0, 0), (.invokevirtual 197, 176, 162, 2, 0), (.i2l, 179, 0, 0, 0), (.lstore 7, 180, 0, 0, 0), (.aload_n 0, 182, 0, 0, 0), (.aload_n 0, 183, 0, 0, 0), (.iload_n 3, 184, 0, 0, 0), (.iload_n 2, 185, 0, 0, 0), (.invokevirtual 200, 186, 163, 2, 0), (.i2l, 189, 0, 0, 0), (.lload 7, 190, 0, 0, 0), (.lmul, 192, 0, 0, 0), (.iload 4, 193, 0, 0, 0), (.iload_n 1, 195, 0, 0, 0), (.isub, 196, 0, 0, 0), (.i2l, 197, 0, 0, 0), (.lmul, 198, 0, 0, 0), (.aload_n 0, 199, 0, 0, 0), (.iload 4, 200, 0, 0, 0), (.iload_n 2, 202, 0, 0, 0), (.invokevirtual 200, 203, 163, 2, 0), (.i2l, 206, 0, 0, 0), (.lload 5, 207, 0, 0, 0), (.lmul, 209, 0, 0, 0), (.iload_n 1, 210, 0, 0, 0), (.iload_n 3, 211, 0, 0, 0), (.isub, 212, 0, 0, 0), (.i2l, 213, 0, 0, 0), (.lmul, 214, 0, 0, 0), (.ladd, 215, 0, 0, 0), (.lload 5, 216, 0, 0, 0), (.lload 7, 218, 0, 0, 0), (.lmul, 220, 0, 0, 0), (.iload 4, 221, 0, 0, 0), (.iload_n 3, 223, 0, 0, 0), (.isub, 224, 0, 0, 0), (.i2l, 225, 0, 0, 0), (.lmul, 226, 0, 0, 0), (.invokevirtual 203, 227, 165, 2, 0), (.ireturn, 230, 1, 0, 0)]
def am_c167 : List am_E := [(.aload_n 0, 0, 0, 0, 0), (.iconst 0, 1, 0, 0, 0), (.putfield 125, 2, 11, 1, 0), (.aload_n 0, 5, 0, 0, 0), (.iconst 0, 6, 0, 0, 0), (.putfield 128, 7, 11, 0, 0), (.aload_n 0, 10, 0, 0, 0), (.iload_n 1, 11, 0, 0, 0), (.invokevirtual 138, 12, 145, 1, 0), (.ifCond .ne 9, 15, 14, 0, 0), (.aload_n 0, 18, 0, 0, 0), (.iconst 1, 19, 0, 0, 0), (.invokevirtual 134, 20, 143, 1, 0), (.ireturn, 23, 0, 0, 0), (.iload_n 2, 24, 0, 0, 0), (.iconst 1, 25, 0, 0, 0), (.if_icmp .lt 28, 26, 28, 0, 0), (.iload_n 2, 29, 0, 0, 0), (.bipush 6, 30, 0, 0, 0), (.if_icmp .gt 22, 32, 28, 0, 0), (.iload_n 3, 35, 0, 0, 0), (.bipush 6, 36, 0, 0, 0), (.invokestatic 145, 38, 147, 2, 1), (.ifCond .eq 13, 41, 28, 0, 0), (.iload 4, 44, 0, 0, 0), (.bipush 6, 46, 0, 0, 0), (.invokestatic 145, 48, 147, 2, 1), (.ifCond .ne 9, 51, 32, 0, 0), (.aload_n 0, 54, 0, 0, 0), (.iconst 2, 55, 0, 0, 0), (.invokevirtual 134, 56, 143, 1, 0), (.ireturn, 59, 0, 0, 0), (.aload_n 0, 60, 0, 0, 0), (.getfield 176, 61, 11, 5, 0), (.iload_n 2, 64, 0, 0, 0), (.iadd, 65, 0, 0, 0), (.sipush 999, 66, 0, 0, 0), (.if_icmp .le 10, 69, 42, 0, 0), (.aload_n 0, 72, 0, 0, 0), (.bipush 6, 73, 0, 0, 0), (.invokevirtual 134, 75, 143, 1, 0), (.ireturn, 78, 0, 0, 0), (.iconst (-1), 79, 0, 0, 0), (.istore 5, 80, 0, 0, 0), (.iconst 0, 82, 0, 0, 0), (.istore 6, 83, 0, 0, 0), (.iconst 0, 85, 0, 0, 0), (.istore 7, 86, 0, 0, 0), (.iload 7, 88, 0, 0, 0), (.iconst 1, 90, 0, 0, 0), (.iconst 2, 91, 0, 0, 0), (.iload_n 2, 92, 0, 0, 0), (.imul, 93, 0, 0, 0), (.ishl, 94, 0, 0, 0), (.if_icmp .ge 205, 95, 167, 0, 0), (.iconst 0, 98, 0, 0, 0), (.istore 8, 99, 0, 0, 0), (.iconst 0, 101, 0, 0, 0), (.istore 9, 102, 0, 0, 0), (.aload_n 0, 104, 0, 0, 0), (.iload_n 1, 105, 0, 0, 0), (.invokevirtual 155, 106, 150, 1, 0), (.iconst 0, 109, 0, 0, 0), (.istore 10, 110, 0, 0, 0), (.iload 10, 112, 0, 0, 0), (.iload_n 2, 114, 0, 0, 0), (.if_icmp .ge 93, 115, 123, 0, 0), (.aload_n 0, 118, 0, 0, 0), (.getfield 47, 119, 11, 18, 2), (.iload 10, 122, 0, 0, 0), (.iload 7, 124, 0, 0, 0), (.iconst 2, 126, 0, 0, 0), (.iload_n 2, 127, 0, 0, 0), (.iconst 1, 128, 0, 0, 0), (.isub, 129, 0, 0, 0), (.iload 10, 130, 0, 0, 0), (.isub, 132, 0, 0, 0), (.imul, 133, 0, 0, 0), (.ishr, 134, 0, 0, 0), (.iconst 3, 135, 0, 0, 0), (.iand, 136, 0, 0, 0), (.iastore, 137, 0, 0, 0), (.iload 8, 138, 0, 0, 0), (.aload_n 0, 140, 0, 0, 0), (.getfield 47, 141, 11, 18, 2), (.iload 10, 144, 0, 0, 0), (.iaload, 146, 0, 0, 0), (.iconst 1, 147, 0, 0, 0), (.iand, 148, 0, 0, 0), (.iadd, 149, 0, 0, 0), (.istore 8, 150, 0, 0, 0), (.iload 9, 152, 0, 0, 0), (.aload_n 0, 154, 0, 0, 0), (.getfield 47, 155, 11, 18, 2), (.iload 10, 158, 0, 0, 0), (.iaload, 160, 0, 0, 0), (.iconst 1, 161, 0, 0, 0), (.ishr, 162, 0, 0, 0), (.iadd, 163, 0, 0, 0), (.istore 9, 164, 0, 0, 0), (.aload_n 0, 166, 0, 0, 0), (.aload_n 0, 167, 0, 0, 0), (.getfield 23, 168, 11, 9, 2), (.aload_n 0, 171, 0, 0, 0), (.getfield 176, 172, 11, 5, 0), (.iload 10, 175, 0, 0, 0), (.iadd, 177, 0, 0, 0), (.iaload, 178, 0, 0, 0), (.aload_n 0, 179, 0, 0, 0), (.getfield 26, 180, 11, 10, 2), (.aload_n 0, 183, 0, 0, 0), (.getfield 176, 184, 11, 5, 0), (.iload 10, 187, 0, 0, 0), (.iadd, 189, 0, 0, 0), (.iaload, 190, 0, 0, 0), (.aload_n 0, 191, 0, 0, 0), (.getfield 47, 192, 11, 18, 2), (.iload 10, 195, 0, 0, 0), (.iaload, 197, 0, 0, 0), (.iconst 0, 198, 0, 0, 0), (.invokevirtual 179, 199, 155, 4, 0), (.iinc 10 1, 202, 0, 0, 0), (.goto (-93), 205, 64, 0, 0), (.aload_n 0, 208, 0, 0, 0), (.invokevirtual 159, 209, 151, 0, 0), (.istore 10, 212, 0, 0, 0), (.iload 8, 214, 0, 0, 0), (.iload_n 3, 216, 0, 0, 0), (.if_icmp .gt 77, 217, 165, 0, 0), (.iload 9, 220, 0, 0, 0), (.iload 4, 222, 0, 0, 0), (.if_icmp .gt 70, 224, 165, 0, 0), (.iload 10, 227, 0, 0, 0), (.iload 5, 229, 0, 0, 0), (.if_icmp .lt 63, 231, 165, 0, 0), (.iload 10, 234, 0, 0, 0), (.iload 5, 236, 0, 0, 0), (.if_icmp .ne 16, 238, 144, 0, 0), (.iload 8, 241, 0, 0, 0), (.iload 9, 243, 0, 0, 0), (.iadd, 245, 0, 0, 0), (.iload 6, 246, 0, 0, 0), (.if_icmp .lt 6, 248, 144, 0, 0), (.goto 43, 251, 165, 0, 0), (.iload 10, 254, 0, 0, 0), (.istore 5, 256, 0, 0, 0), (.iload 8, 258, 0, 0, 0), (.iload 9, 260, 0, 0, 0), (.iadd, 262, 0, 0, 0), (.istore 6, 263, 0, 0, 0), (.iconst 0, 265, 0, 0, 0), (.istore 11, 266, 0, 0, 0), (.iload 11, 268, 0, 0, 0), (.iload_n 2, 270, 0, 0, 0), (.if_icmp .ge 23, 271, 165, 0, 0), (.aload_n 0, 274, 0, 0, 0), (.getfield 50, 275, 11, 19, 2), (.iload 11, 278, 0, 0, 0), (.aload_n 0, 280, 0, 0, 0), (.getfield 47, 281, 11, 18, 2), (.iload 11, 284, 0, 0, 0), (.iaload, 286, 0, 0, 0), (.iastore, 287, 0, 0, 0), (.iinc 11 1, 288, 0, 0, 0), (.goto (-23), 291, 152, 0, 0), (.iinc 7 1, 294, 0, 0, 0), (.goto (-209), 297, 48, 0, 0), (.aload_n 0, 300, 0, 0, 0), (.iload_n 2, 301, 0, 0, 0), (.putfield 207, 302, 11, 20, 0), (.iload 5, 305, 0, 0, 0), (.ireturn, 307, 0, 0, 0)]
def am_c168 : List am_E := [(.aload_n 0, 0, 0, 0, 0), (.iconst 0, 1, 0, 0, 0), (.putfield 125, 2, 11, 1, 0), (.aload_n 0, 5, 0, 0, 0), (.iconst 0, 6, 0, 0, 0), (.putfield 128, 7, 11, 0, 0), (.iload_n 1, 10, 0, 0, 0), (.ifCond .lt 11, 11, 12, 0, 0), (.iload_n 1, 14, 0, 0, 0), (.aload_n 0, 15, 0, 0, 0), (.getfield 207, 16, 11, 20, 0), (.if_icmp .lt 11, 19, 16, 0, 0), (.aload_n 0, 22, 0, 0, 0), (.iconst 5, 23, 0, 0, 0), (.invokevirtual 134, 24, 143, 1, 0), (.goto 9, 27, 20, 0, 0), (.aload_n 0, 30, 0, 0, 0), (.getfield 50, 31, 11, 19, 2), (.iload_n 1, 34, 0, 0, 0), (.iaload, 35, 0, 0, 0), (.ireturn, 36, 0, 0, 0)]
def am_c169 : List am_E := [(.iload_n 1, 0, 0, 0, 0), (.aload_n 0, 1, 0, 0, 0), (.getfield 210, 2, 11, 36, 0), (.if_icmp .ge 16, 5, 11, 0, 0), (.aload_n 0, 8, 0, 0, 0), (.getfield 87, 9, 11, 34, 2), (.iload_n 1, 12, 0, 0, 0), (.baload, 13, 0, 0, 0), (.sipush 255, 14, 0, 0, 0), (.iand, 17, 0, 0, 0), (.goto 4, 18, 12, 0, 0), (.iconst 0, 21, 0, 0, 0), (.ireturn, 22, 0, 0, 0)]
def am_c170 : List am_E := [(.iload_n 0, 0, 0, 0, 0), (.bipush 97, 1, 0, 0, 0), (.if_icmp .lt 13, 3, 8, 0, 0), (.iload_n 0, 6, 0, 0, 0), (.bipush 122, 7, 0, 0, 0), (.if_icmp .gt 7, 9, 8, 0, 0), (.iconst 1, 12, 0, 0, 0), (.goto 4, 13, 9, 0, 0), (.iconst 0, 16, 0, 0, 0), (.ireturn, 17, 1, 0, 0)]
def am_c171 : List am_E := [(.iload_n 0, 0, 0, 0, 0), (.bipush 48, 1, 0, 0, 0), (.if_icmp .lt 13, 3, 8, 0, 0), (.iload_n 0, 6, 0, 0, 0), (.bipush 57, 7, 0, 0, 0), (.if_icmp .gt 7, 9, 8, 0, 0), (.iconst 1, 12, 0, 0, 0), (.goto 4, 13, 9, 0, 0), (.iconst 0, 16, 0, 0, 0), (.ireturn, 17, 1, 0, 0)]
def am_c172 : List am_E := [(.aload_n 0, 0, 0, 0, 0), (.aload_n 0, 1, 0, 0, 0), (.getfield 213, 2, 11, 43, 0), (.putfield 216, 5, 11, 42, 0), (.aload_n 0, 8, 0, 0, 0), (.getfield 216, 9, 11, 42, 0), (.aload_n 0, 12, 0, 0, 0), (.getfield 210, 13, 11, 36, 0), (.if_icmp .ge 42, 16, 28, 0, 0), (.aload_n 0, 19, 0, 0, 0), (.aload_n 0, 20, 0, 0, 0), (.getfield 216, 21, 11, 42, 0), (.invokevirtual 219, 24, 169, 1, 0), (.bipush 10, 27, 0, 0, 0), (.if_icmp .eq 16, 29, 21, 0, 0), (.aload_n 0, 32, 0, 0, 0), (.aload_n 0, 33, 0, 0, 0), (.getfield 216, 34, 11, 42, 0), (.invokevirtual 219, 37, 169, 1, 0), (.bipush 32, 40, 0, 0, 0), (.if_icmp .ne 16, 42, 28, 0, 0), (.aload_n 0, 45, 0, 0, 0), (.dup, 46, 0, 0, 0), (.getfield 216, 47, 11, 42, 0), (.iconst 1, 50, 0, 0, 0), (.iadd, 51, 0, 0, 0), (.putfield 216, 52, 11, 42, 0), (.goto (-47), 55, 4, 0, 0), (.aload_n 0, 58, 0, 0, 0), (.aload_n 0, 59, 0, 0, 0), (.getfield 216, 60, 11, 42, 0), (.putfield 213, 63, 11, 43, 0), (.aload_n 0, 66, 0, 0, 0), (.getfield 216, 67, 11, 42, 0), (.aload_n 0, 70, 0, 0, 0), (.getfield 210, 71, 11, 36, 0), (.if_icmp .lt 9, 74, 41, 0, 0), (.aload_n 0, 77, 0, 0, 0), (.iconst 0, 78, 0, 0, 0), (.putfield 222, 79, 11, 41, 0), (.return_, 82, 0, 0, 0), (.aload_n 0, 83, 0, 0, 0), (.aload_n 0, 84, 0, 0, 0), (.getfield 216, 85, 11, 42, 0), (.invokevirtual 219, 88, 169, 1, 0), (.istore_n 1, 91, 0, 0, 0), (.iload_n 1, 92, 0, 0, 0), (.invokestatic 225, 93, 170, 1, 1), (.ifCond .eq 102, 96, 99, 0, 0), (.aload_n 0, 99, 0, 0, 0), (.iconst 1, 100, 0, 0, 0), (.putfield 222, 101, 11, 41, 0), (.aload_n 0, 104, 0, 0, 0), (.lconst 0, 105, 0, 0, 0), (.putfield 228, 106, 11, 46, 1), (.aload_n 0, 109, 0, 0, 0), (.aload_n 0, 110, 0, 0, 0), (.getfield 213, 111, 11, 43, 0), (.invokevirtual 219, 114, 169, 1, 0), (.invokestatic 225, 117, 170, 1, 1), (.ifCond .eq 62, 120, 91, 0, 0), (.aload_n 0, 123, 0, 0, 0), (.aload_n 0, 124, 0, 0, 0), (.getfield 213, 125, 11, 43, 0), (.aload_n 0, 128, 0, 0, 0), (.getfield 216, 129, 11, 42, 0), (.isub, 132, 0, 0, 0), (.bipush 12, 133, 0, 0, 0), (.if_icmp .ge 28, 135, 82, 0, 0), (.aload_n 0, 138, 0, 0, 0), (.getfield 228, 139, 11, 46, 1), (.ldc2_w 231, 142, 2, 0, 0), (.lmul, 145, 0, 0, 0), (.aload_n 0, 146, 0, 0, 0), (.aload_n 0, 147, 0, 0, 0), (.getfield 213, 148, 11, 43, 0), (.invokevirtual 219, 151, 169, 1, 0), (.i2l, 154, 0, 0, 0), (.ladd, 155, 0, 0, 0), (.ldc2_w 233, 156, 3, 0, 0), (.lsub, 159, 0, 0, 0), (.goto 6, 160, 83, 0, 0), (.ldc2_w 235, 163, 0, 0, 0), (.putfield 228, 166, 11, 46, 1), (.aload_n 0, 169, 0, 0, 0), (.dup, 170, 0, 0, 0), (.getfield 213, 171, 11, 43, 0), (.iconst 1, 174, 0, 0, 0), (.iadd, 175, 0, 0, 0), (.putfield 213, 176, 11, 43, 0), (.goto (-70), 179, 55, 0, 0), (.aload_n 0, 182, 0, 0, 0), (.aload_n 0, 183, 0, 0, 0), (.getfield 213, 184, 11, 43, 0), (.aload_n 0, 187, 0, 0, 0), (.getfield 216, 188, 11, 42, 0), (.isub, 191, 0, 0, 0), (.putfield 237, 192, 11, 45, 0), (.goto 151, 195, 177, 0, 0), (.iload_n 1, 198, 0, 0, 0), (.invokestatic 240, 199, 171, 1, 1), (.ifCond .eq 96, 202, 151, 0, 0), (.aload_n 0, 205, 0, 0, 0), (.iconst 0, 206, 0, 0, 0), (.putfield 243, 207, 11, 44, 0), (.aload_n 0, 210, 0, 0, 0), (.aload_n 0, 211, 0, 0, 0), (.getfield 213, 212, 11, 43, 0), (.invokevirtual 219, 215, 169, 1, 0), (.invokestatic 240, 218, 171, 1, 1), (.ifCond .eq 52, 221, 138, 0, 0), (.aload_n 0, 224, 0, 0, 0), (.getfield 213, 225, 11, 43, 0), (.aload_n 0, 228, 0, 0, 0), (.getfield 216, 229, 11, 42, 0), (.isub, 232, 0, 0, 0), (.iconst 3, 233, 0, 0, 0), (.if_icmp .ge 26, 234, 131, 0, 0), (.aload_n 0, 237, 0, 0, 0), (.bipush 10, 238, 0, 0, 0), (.aload_n 0, 240, 0, 0, 0), (.getfield 243, 241, 11, 44, 0), (.imul, 244, 0, 0, 0), (.aload_n 0, 245, 0, 0, 0), (.aload_n 0, 246, 0, 0, 0), (.getfield 213, 247, 11, 43, 0), (.invokevirtual 219, 250, 169, 1, 0), (.iadd, 253, 0, 0, 0), (.bipush 48, 254, 0, 0, 0), (.isub, 256, 0, 0, 0), (.putfield 243, 257, 11, 44, 0), (.aload_n 0, 260, 0, 0, 0), (.dup, 261, 0, 0, 0), (.getfield 213, 262, 11, 43, 0), (.iconst 1, 265, 0, 0, 0), (.iadd, 266, 0, 0, 0), (.putfield 213, 267, 11, 43, 0), (.goto (-60), 270, 105, 0, 0), (.aload_n 0, 273, 0, 0, 0), (.aload_n 0, 274, 0, 0, 0), (.getfield 213, 275, 11, 43, 0), (.aload_n 0, 278, 0, 0, 0), (.getfield 216, 279, 11, 42, 0), (.isub, 282, 0, 0, 0), (.iconst 3, 283, 0, 0, 0), (.if_icmp .le 7, 284, 148, 0, 0), (.iconst 4, 287, 0, 0, 0), (.goto 4, 288, 149, 0, 0), (.iconst 2, 291, 0, 0, 0), (.putfield 222, 292, 11, 41, 0), (.goto 51, 295, 177, 0, 0), (.aload_n 0, 298, 0, 0, 0), (.aload_n 0, 299, 0, 0, 0), (.getfield 216, 300, 11, 42, 0), (.iconst 1, 303, 0, 0, 0), (.iadd, 304, 0, 0, 0), (.putfield 213, 305, 11, 43, 0), (.aload_n 0, 308, 0, 0, 0), (.iload_n 1, 309, 0, 0, 0), (.putfield 243, 310, 11, 44, 0), (.aload_n 0, 313, 0, 0, 0), (.iload_n 1, 314, 0, 0, 0), (.bipush 60, 315, 0, 0, 0), (.if_icmp .eq 21, 317, 173, 0, 0), (.iload_n 1, 320, 0, 0, 0), (.bipush 62, 321, 0, 0, 0), (.if_icmp .eq 15, 323, 173, 0, 0), (.iload_n 1, 326, 0, 0, 0), (.bipush 61, 327, 0, 0, 0), (.if_icmp .eq 9, 329, 173, 0, 0), (.iload_n 1, 332, 0, 0, 0), (.bipush 59, 333, 0, 0, 0), (.if_icmp .ne 7, 335, 175, 0, 0), (.iconst 3, 338, 0, 0, 0), (.goto 4, 339, 176, 0, 0), (.iconst 4, 342, 0, 0, 0), (.putfield 222, 343, 11, 41, 0), (.return_, 346, 0, 0, 0)]
def am_c173 : List am_E := [(.iload_n 0, 0, 0, 0, 0), (.i2l, 1, 0, 0, 0), (.ldc2_w 233, 2, 3, 0, 0), (.lsub, 5, 0, 0, 0), (.lstore 6, 6, 0, 0, 0), (.lload 6, 8, 0, 0, 0), (.ldc2_w 231, 10, 2, 0, 0), (.lmul, 13, 0, 0, 0), (.iload_n 1, 14, 0, 0, 0), (.i2l, 15, 0, 0, 0), (.ladd, 16, 0, 0, 0), (.ldc2_w 233, 17, 3, 0, 0), (.lsub, 20, 0, 0, 0), (.lstore 6, 21, 0, 0, 0), (.lload 6, 23, 0, 0, 0), (.ldc2_w 231, 25, 2, 0, 0), (.lmul, 28, 0, 0, 0), (.iload_n 2, 29, 0, 0, 0), (.i2l, 30, 0, 0, 0), (.ladd, 31, 0, 0, 0), (.ldc2_w 233, 32, 3, 0, 0), (.lsub, 35, 0, 0, 0), (.lstore 6, 36, 0, 0, 0), (.iload_n 3, 38, 0, 0, 0), (.ifCond .le 19, 39, 34, 0, 0), (.lload 6, 42, 0, 0, 0), (.ldc2_w 231, 44, 2, 0, 0), (.lmul, 47, 0, 0, 0), (.iload_n 3, 48, 0, 0, 0), (.i2l, 49, 0, 0, 0), (.ladd, 50, 0, 0, 0), (.ldc2_w 233, 51, 3, 0, 0), (.lsub, 54, 0, 0, 0), (.goto 5, 55, 35, 0, 0), (.lload 6, 58, 0, 0, 0), (.lstore 6, 60, 0, 0, 0), (.iload 4, 62, 0, 0, 0), (.ifCond .le 20, 64, 47, 0, 0), (.lload 6, 67, 0, 0, 0), (.ldc2_w 231, 69, 2, 0, 0), (.lmul, 72, 0, 0, 0), (.iload 4, 73, 0, 0, 0), (.i2l, 75, 0, 0, 0), (.ladd, 76, 0, 0, 0), (.ldc2_w 233, 77, 3, 0, 0), (.lsub, 80, 0, 0, 0), (.goto 5, 81, 48, 0, 0), (.lload 6, 84, 0, 0, 0), (.lstore 6, 86, 0, 0, 0), (.iload 5, 88, 0, 0, 0), (.ifCond .le 20, 90, 60, 0, 0), (.lload 6, 93, 0, 0, 0), (.ldc2_w 231, 95, 2, 0, 0), (.lmul, 98, 0, 0, 0), (.iload 5, 99, 0, 0, 0), (.i2l, 101, 0, 0, 0), (.ladd, 102, 0, 0, 0), (.ldc2_w 233, 103, 3, 0, 0), (.lsub, 106, 0, 0, 0), (.goto 5, 107, 61, 0, 0), (.lload 6, 110, 0, 0, 0), (.lreturn, 112, 0, 0, 0)]
def am_c174 : List am_E := [(.aload_n 0, 0, 0, 0, 0), (.getfield 222, 1, 11, 41, 0), (.iconst 1, 4, 0, 0, 0), (.if_icmp .ne 16, 5, 11, 0, 0), (.aload_n 0, 8, 0, 0, 0), (.getfield 228, 9, 11, 46, 1), (.lload_n 1, 12, 0, 0, 0), (.lcmp, 13, 0, 0, 0), (.ifCond .ne 7, 14, 11, 0, 0), (.iconst 1, 17, 0, 0, 0), (.goto 4, 18, 12, 0, 0), (.iconst 0, 21, 0, 0, 0), (.ireturn, 22, 1, 0, 0)]
def am_c175 : List am_E := [(.aload_n 0, 0, 0, 0, 0), (.getfield 222, 1, 11, 41, 0), (.iconst 3, 4, 0, 0, 0), (.if_icmp .ne 15, 5, 10, 0, 0), (.aload_n 0, 8, 0, 0, 0), (.getfield 243, 9, 11, 44, 0), (.iload_n 1, 12, 0, 0, 0), (.if_icmp .ne 7, 13, 10, 0, 0), (.iconst 1, 16, 0, 0, 0), (.goto 4, 17, 11, 0, 0), (.iconst 0, 20, 0, 0, 0), (.ireturn, 21, 1, 0, 0)]
def am_c176 : List am_E := [(.aload_n 0, 0, 0, 0, 0), (.getfield 246, 1, 11, 39, 0), (.ifCond .le 4, 4, 4, 0, 0), (.return_, 7, 0, 0, 0), (.aload_n 0, 8, 0, 0, 0), (.iload_n 1, 9, 0, 0, 0), (.putfield 246, 10, 11, 39, 0), (.aload_n 0, 13, 0, 0, 0), (.iload_n 2, 14, 0, 0, 0), (.putfield 249, 15, 11, 40, 0), (.return_, 18, 0, 0, 0)]
def am_c177 : List am_E := [(.aload_n 0, 0, 0, 0, 0), (.aload_n 0, 1, 0, 0, 0), (.getfield 222, 2, 11, 41, 0), (.iconst 4, 5, 0, 0, 0), (.if_icmp .ne 7, 6, 7, 0, 0), (.iconst 1, 9, 0, 0, 0), (.goto 4, 10, 8, 0, 0), (.iconst 2, 13, 0, 0, 0), (.aload_n 0, 14, 0, 0, 0), (.getfield 216, 15, 11, 42, 0), (.invokevirtual 252, 18, 176, 2, 0), (.return_, 21, 0, 0, 0)]
def am_c178 : List am_E := [(.aload_n 0, 0, 0, 0, 0), (.bipush 102, 1, 0, 0, 0), (.bipush 105, 3, 0, 0, 0), (.bipush 114, 5, 0, 0, 0), (.bipush 115, 7, 0, 0, 0), (.bipush 116, 9, 0, 0, 0), (.iconst 0, 11, 0, 0, 0), (.invokestatic 255, 12, 173, 6, 1), (.invokevirtual 259, 15, 174, 1, 0), (.ifCond .eq 5, 18, 12, 0, 0), (.iconst 0, 21, 0, 0, 0), (.ireturn, 22, 0, 0, 0), (.aload_n 0, 23, 0, 0, 0), (.bipush 115, 24, 0, 0, 0), (.bipush 101, 26, 0, 0, 0), (.bipush 99, 28, 0, 0, 0), (.bipush 111, 30, 0, 0, 0), (.bipush 110, 32, 0, 0, 0), (.bipush 100, 34, 0, 0, 0), (.invokestatic 255, 36, 173, 6, 1), (.invokevirtual 259, 39, 174, 1, 0), (.ifCond .eq 5, 42, 24, 0, 0), (.iconst 1, 45, 0, 0, 0), (.ireturn, 46, 0, 0, 0), (.aload_n 0, 47, 0, 0, 0), (.bipush 116, 48, 0, 0, 0), (.bipush 104, 50, 0, 0, 0), (.bipush 105, 52, 0, 0, 0), (.bipush 114, 54, 0, 0, 0), (.bipush 100, 56, 0, 0, 0), (.iconst 0, 58, 0, 0, 0), (.invokestatic 255, 59, 173, 6, 1), (.invokevirtual 259, 62, 174, 1, 0), (.ifCond .eq 5, 65, 36, 0, 0), (.iconst 2, 68, 0, 0, 0), (.ireturn, 69, 0, 0, 0), (.aload_n 0, 70, 0, 0, 0), (.bipush 103, 71, 0, 0, 0), (.bipush 114, 73, 0, 0, 0), (.bipush 97, 75, 0, 0, 0), (.bipush 115, 77, 0, 0, 0), (.bipush 115, 79, 0, 0, 0), (.iconst 0, 81, 0, 0, 0), (.invokestatic 255, 82, 173, 6, 1), (.invokevirtual 259, 85, 174, 1, 0), (.ifCond .eq 5, 88, 48, 0, 0), (.iconst 3, 91, 0, 0, 0), (.ireturn, 92, 0, 0, 0), (.aload_n 0, 93, 0, 0, 0), (.bipush 104, 94, 0, 0, 0), (.bipush 97, 96, 0, 0, 0), (.bipush 114, 98, 0, 0, 0), (.bipush 100, 100, 0, 0, 0), (.iconst 0, 102, 0, 0, 0), (.iconst 0, 103, 0, 0, 0), (.invokestatic 255, 104, 173, 6, 1), (.invokevirtual 259, 107, 174, 1, 0), (.ifCond .eq 5, 110, 60, 0, 0), (.iconst 4, 113, 0, 0, 0), (.ireturn, 114, 0, 0, 0), (.aload_n 0, 115, 0, 0, 0), (.bipush 119, 116, 0, 0, 0), (.bipush 101, 118, 0, 0, 0), (.bipush 97, 120, 0, 0, 0), (.bipush 114, 122, 0, 0, 0), (.iconst 0, 124, 0, 0, 0), (.iconst 0, 125, 0, 0, 0), (.invokestatic 255, 126, 173, 6, 1), (.invokevirtual 259, 129, 174, 1, 0), (.ifCond .eq 5, 132, 72, 0, 0), (.iconst 5, 135, 0, 0, 0), (.ireturn, 136, 0, 0, 0), (.aload_n 0, 137, 0, 0, 0), (.bipush 98, 138, 0, 0, 0), (.bipush 111, 140, 0, 0, 0), (.bipush 117, 142, 0, 0, 0), (.bipush 110, 144, 0, 0, 0), (.bipush 99, 146, 0, 0, 0), (.bipush 101, 148, 0, 0, 0), (.invokestatic 255, 150, 173, 6, 1), (.invokevirtual 259, 153, 174, 1, 0), (.ifCond .eq 6, 156, 84, 0, 0), (.bipush 6, 159, 0, 0, 0), (.ireturn, 161, 0, 0, 0), (.aload_n 0, 162, 0, 0, 0), (.bipush 114, 163, 0, 0, 0), (.bipush 97, 165, 0, 0, 0), (.bipush 105, 167, 0, 0, 0), (.bipush 110, 169, 0, 0, 0), (.iconst 0, 171, 0, 0, 0), (.iconst 0, 172, 0, 0, 0), (.invokestatic 255, 173, 173, 6, 1), (.invokevirtual 259, 176, 174, 1, 0), (.ifCond .eq 8, 179, 96, 0, 0), (.bipush 7, 182, 0, 0, 0), (.goto 4, 184, 97, 0, 0), (.iconst (-1), 187, 0, 0, 0), (.ireturn, 188, 0, 0, 0)]
def am_c179 : List am_E := [(.aload_n 0, 0, 0, 0, 0), (.invokevirtual 263, 1, 178, 0, 0), (.istore_n 1, 4, 0, 0, 0), (.iload_n 1, 5, 0, 0, 0), (.ifCond .ge 8, 6, 8, 0, 0), (.aload_n 0, 9, 0, 0, 0), (.invokevirtual 266, 10, 177, 0, 0), (.return_, 13, 0, 0, 0), (.aload_n 0, 14, 0, 0, 0), (.getfield 109, 15, 11, 53, 2), (.aload_n 0, 18, 0, 0, 0), (.getfield 269, 19, 11, 48, 0), (.iaload, 22, 0, 0, 0), (.bipush 6, 23, 0, 0, 0), (.if_icmp .ne 12, 25, 20, 0, 0), (.aload_n 0, 28, 0, 0, 0), (.iconst 3, 29, 0, 0, 0), (.aload_n 0, 30, 0, 0, 0), (.getfield 216, 31, 11, 42, 0), (.invokevirtual 252, 34, 176, 2, 0), (.aload_n 0, 37, 0, 0, 0), (.getfield 246, 38, 11, 39, 0), (.ifCond .le 4, 41, 24, 0, 0), (.return_, 44, 0, 0, 0), (.bipush 6, 45, 0, 0, 0), (.aload_n 0, 47, 0, 0, 0), (.getfield 269, 48, 11, 48, 0), (.imul, 51, 0, 0, 0), (.aload_n 0, 52, 0, 0, 0), (.getfield 109, 53, 11, 53, 2), (.aload_n 0, 56, 0, 0, 0), (.getfield 269, 57, 11, 48, 0), (.iaload, 60, 0, 0, 0), (.iadd, 61, 0, 0, 0), (.istore_n 2, 62, 0, 0, 0), (.aload_n 0, 63, 0, 0, 0), (.invokevirtual 272, 64, 172, 0, 0), (.aload_n 0, 67, 0, 0, 0), (.bipush 60, 68, 0, 0, 0), (.invokevirtual 275, 70, 175, 1, 0), (.ifCond .ne 26, 73, 52, 0, 0), (.aload_n 0, 76, 0, 0, 0), (.bipush 62, 77, 0, 0, 0), (.invokevirtual 275, 79, 175, 1, 0), (.ifCond .ne 17, 82, 52, 0, 0), (.aload_n 0, 85, 0, 0, 0), (.bipush 61, 86, 0, 0, 0), (.invokevirtual 275, 88, 175, 1, 0), (.ifCond .ne 8, 91, 52, 0, 0), (.aload_n 0, 94, 0, 0, 0), (.invokevirtual 266, 95, 177, 0, 0), (.return_, 98, 0, 0, 0), (.aload_n 0, 99, 0, 0, 0), (.getfield 112, 100, 11, 54, 2), (.iload_n 2, 103, 0, 0, 0), (.iload_n 1, 104, 0, 0, 0), (.iastore, 105, 0, 0, 0), (.aload_n 0, 106, 0, 0, 0), (.getfield 115, 107, 11, 55, 2), (.iload_n 2, 110, 0, 0, 0), (.aload_n 0, 111, 0, 0, 0), (.getfield 243, 112, 11, 44, 0), (.iastore, 115, 0, 0, 0), (.aload_n 0, 116, 0, 0, 0), (.invokevirtual 272, 117, 172, 0, 0), (.aload_n 0, 120, 0, 0, 0), (.getfield 222, 121, 11, 41, 0), (.iconst 2, 124, 0, 0, 0), (.if_icmp .eq 8, 125, 72, 0, 0), (.aload_n 0, 128, 0, 0, 0), (.invokevirtual 266, 129, 177, 0, 0), (.return_, 132, 0, 0, 0), (.aload_n 0, 133, 0, 0, 0), (.getfield 118, 134, 11, 56, 2), (.iload_n 2, 137, 0, 0, 0), (.aload_n 0, 138, 0, 0, 0), (.getfield 243, 139, 11, 44, 0), (.iastore, 142, 0, 0, 0), (.aload_n 0, 143, 0, 0, 0), (.getfield 109, 144, 11, 53, 2), (.aload_n 0, 147, 0, 0, 0), (.getfield 269, 148, 11, 48, 0), (.dup2, 151, 0, 0, 0), (.iaload, 152, 0, 0, 0), (.iconst 1, 153, 0, 0, 0), (.iadd, 154, 0, 0, 0), (.iastore, 155, 0, 0, 0), (.aload_n 0, 156, 0, 0, 0), (.invokevirtual 272, 157, 172, 0, 0), (.return_, 160, 0, 0, 0)]
def am_c180 : List am_E := [(.aload_n 0, 0, 0, 0, 0), (.getfield 222, 1, 11, 41, 0), (.iconst 1, 4, 0, 0, 0), (.if_icmp .ne 12, 5, 8, 0, 0), (.aload_n 0, 8, 0, 0, 0), (.getfield 237, 9, 11, 45, 0), (.bipush 8, 12, 0, 0, 0), (.if_icmp .le 8, 14, 11, 0, 0), (.aload_n 0, 17, 0, 0, 0), (.invokevirtual 266, 18, 177, 0, 0), (.return_, 21, 0, 0, 0), (.aload_n 0, 22, 0, 0, 0), (.getfield 269, 23, 11, 48, 0), (.bipush 8, 26, 0, 0, 0), (.if_icmp .ne 12, 28, 20, 0, 0), (.aload_n 0, 31, 0, 0, 0), (.iconst 3, 32, 0, 0, 0), (.aload_n 0, 33, 0, 0, 0), (.getfield 216, 34, 11, 42, 0), (.invokevirtual 252, 37, 176, 2, 0), (.iconst 0, 40, 0, 0, 0), (.istore_n 1, 41, 0, 0, 0), (.iload_n 1, 42, 0, 0, 0), (.aload_n 0, 43, 0, 0, 0), (.getfield 269, 44, 11, 48, 0), (.if_icmp .ge 32, 47, 41, 0, 0), (.aload_n 0, 50, 0, 0, 0), (.getfield 121, 51, 11, 57, 2), (.iload_n 1, 54, 0, 0, 0), (.laload, 55, 0, 0, 0), (.aload_n 0, 56, 0, 0, 0), (.getfield 228, 57, 11, 46, 1), (.lcmp, 60, 0, 0, 0), (.ifCond .ne 12, 61, 39, 0, 0), (.aload_n 0, 64, 0, 0, 0), (.iconst 4, 65, 0, 0, 0), (.aload_n 0, 66, 0, 0, 0), (.getfield 216, 67, 11, 42, 0), (.invokevirtual 252, 70, 176, 2, 0), (.iinc 1 1, 73, 0, 0, 0), (.goto (-34), 76, 22, 0, 0), (.aload_n 0, 79, 0, 0, 0), (.getfield 246, 80, 11, 39, 0), (.ifCond .le 4, 83, 45, 0, 0), (.return_, 86, 0, 0, 0), (.aload_n 0, 87, 0, 0, 0), (.getfield 121, 88, 11, 57, 2), (.aload_n 0, 91, 0, 0, 0), (.getfield 269, 92, 11, 48, 0), (.aload_n 0, 95, 0, 0, 0), (.getfield 228, 96, 11, 46, 1), (.lastore, 99, 0, 0, 0), (.aload_n 0, 100, 0, 0, 0), (.getfield 109, 101, 11, 53, 2), (.aload_n 0, 104, 0, 0, 0), (.getfield 269, 105, 11, 48, 0), (.iconst 0, 108, 0, 0, 0), (.iastore, 109, 0, 0, 0), (.aload_n 0, 110, 0, 0, 0), (.invokevirtual 272, 111, 172, 0, 0), (.aload_n 0, 114, 0, 0, 0), (.bipush 119, 115, 0, 0, 0), (.bipush 104, 117, 0, 0, 0), (.bipush 101, 119, 0, 0, 0), (.bipush 110, 121, 0, 0, 0), (.iconst 0, 123, 0, 0, 0), (.iconst 0, 124, 0, 0, 0), (.invokestatic 255, 125, 173, 6, 1), (.invokevirtual 259, 128, 174, 1, 0), (.istore_n 1, 131, 0, 0, 0), (.iload_n 1, 132, 0, 0, 0), (.ifCond .ne 7, 133, 74, 0, 0), (.aload_n 0, 136, 0, 0, 0), (.invokevirtual 266, 137, 177, 0, 0), (.iload_n 1, 140, 0, 0, 0), (.ifCond .eq 53, 141, 101, 0, 0), (.aload_n 0, 144, 0, 0, 0), (.getfield 246, 145, 11, 39, 0), (.ifCond .ne 46, 148, 101, 0, 0), (.aload_n 0, 151, 0, 0, 0), (.invokevirtual 272, 152, 172, 0, 0), (.aload_n 0, 155, 0, 0, 0), (.invokevirtual 278, 156, 179, 0, 0), (.aload_n 0, 159, 0, 0, 0), (.getfield 246, 160, 11, 39, 0), (.ifCond .ne 26, 163, 98, 0, 0), (.aload_n 0, 166, 0, 0, 0), (.bipush 97, 167, 0, 0, 0), (.bipush 110, 169, 0, 0, 0), (.bipush 100, 171, 0, 0, 0), (.iconst 0, 173, 0, 0, 0), (.iconst 0, 174, 0, 0, 0), (.iconst 0, 175, 0, 0, 0), (.invokestatic 255, 176, 173, 6, 1), (.invokevirtual 259, 179, 174, 1, 0), (.ifCond .eq 7, 182, 98, 0, 0), (.iconst 1, 185, 0, 0, 0), (.goto 4, 186, 99, 0, 0), (.iconst 0, 189, 0, 0, 0), (.istore_n 1, 190, 0, 0, 0), (.goto (-51), 191, 74, 0, 0), (.aload_n 0, 194, 0, 0, 0), (.getfield 246, 195, 11, 39, 0), (.ifCond .ne 16, 198, 110, 0, 0), (.aload_n 0, 201, 0, 0, 0), (.bipush 59, 202, 0, 0, 0), (.invokevirtual 275, 204, 175, 1, 0), (.ifCond .ne 7, 207, 110, 0, 0), (.aload_n 0, 210, 0, 0, 0), (.invokevirtual 266, 211, 177, 0, 0), (.aload_n 0, 214, 0, 0, 0), (.getfield 246, 215, 11, 39, 0), (.ifCond .le 4, 218, 114, 0, 0), (.return_, 221, 0, 0, 0), (.aload_n 0, 222, 0, 0, 0), (.invokevirtual 272, 223, 172, 0, 0), (.aload_n 0, 226, 0, 0, 0), (.dup, 227, 0, 0, 0), (.getfield 269, 228, 11, 48, 0), (.iconst 1, 231, 0, 0, 0), (.iadd, 232, 0, 0, 0), (.putfield 269, 233, 11, 48, 0), (.return_, 236, 0, 0, 0)]
def am_c181 : List am_E := [(.aload_n 0, 0, 0, 0, 0), (.iconst 0, 1, 0, 0, 0), (.putfield 125, 2, 11, 1, 0), (.aload_n 0, 5, 0, 0, 0), (.getfield 281, 6, 11, 35, 0), (.bipush 20, 9, 0, 0, 0), (.iadd, 11, 0, 0, 0), (.sipush 400, 12, 0, 0, 0), (.if_icmp .le 5, 15, 11, 0, 0), (.iconst (-1), 18, 0, 0, 0), (.ireturn, 19, 0, 0, 0), (.aload_n 0, 20, 0, 0, 0), (.iload_n 1, 21, 0, 0, 0), (.invokevirtual 284, 22, 182, 1, 0), (.aload_n 0, 25, 0, 0, 0), (.iload_n 2, 26, 0, 0, 0), (.invokevirtual 284, 27, 182, 1, 0), (.aload_n 0, 30, 0, 0, 0), (.iload_n 3, 31, 0, 0, 0), (.invokevirtual 284, 32, 182, 1, 0), (.aload_n 0, 35, 0, 0, 0), (.iload 4, 36, 0, 0, 0), (.invokevirtual 284, 38, 182, 1, 0), (.aload_n 0, 41, 0, 0, 0), (.iload 5, 42, 0, 0, 0), (.invokevirtual 284, 44, 182, 1, 0), (.aload_n 0, 47, 0, 0, 0), (.getfield 281, 48, 11, 35, 0), (.ireturn, 51, 0, 0, 0)]
def am_c182 : List am_E := [(.iconst 3, 0, 0, 0, 0), (.istore_n 2, 1, 0, 0, 0), (.iload_n 2, 2, 0, 0, 0), (.ifCond .lt 35, 3, 23, 0, 0), (.aload_n 0, 6, 0, 0, 0), (.getfield 87, 7, 11, 34, 2), (.aload_n 0, 10, 0, 0, 0), (.getfield 281, 11, 11, 35, 0), (.iload_n 1, 14, 0, 0, 0), (.bipush 8, 15, 0, 0, 0), (.iload_n 2, 17, 0, 0, 0), (.imul, 18, 0, 0, 0), (.ishr, 19, 0, 0, 0), (.i2b, 20, 0, 0, 0), (.bastore, 21, 0, 0, 0), (.aload_n 0, 22, 0, 0, 0), (.dup, 23, 0, 0, 0), (.getfield 281, 24, 11, 35, 0), (.iconst 1, 27, 0, 0, 0), (.iadd, 28, 0, 0, 0), (.putfield 281, 29, 11, 35, 0), (.iinc 2 (-1), 32, 0, 0, 0), (.goto (-33), 35, 2, 0, 0), (.return_, 38, 0, 0, 0)]
def am_c183 : List am_E := [(.aload_n 0, 0, 0, 0, 0), (.iconst 0, 1, 0, 0, 0), (.putfield 125, 2, 11, 1, 0), (.aload_n 0, 5, 0, 0, 0), (.iconst 0, 6, 0, 0, 0), (.putfield 128, 7, 11, 0, 0), (.iload_n 1, 10, 0, 0, 0), (.ifCond .lt 11, 11, 12, 0, 0), (.iload_n 1, 14, 0, 0, 0), (.aload_n 0, 15, 0, 0, 0), (.getfield 281, 16, 11, 35, 0), (.if_icmp .le 9, 19, 16, 0, 0), (.aload_n 0, 22, 0, 0, 0), (.iconst 2, 23, 0, 0, 0), (.invokevirtual 134, 24, 143, 1, 0), (.ireturn, 27, 0, 0, 0), (.aload_n 0, 28, 0, 0, 0), (.iload_n 1, 29, 0, 0, 0), (.putfield 210, 30, 11, 36, 0), (.aload_n 0, 33, 0, 0, 0), (.iconst 0, 34, 0, 0, 0), (.putfield 281, 35, 11, 35, 0), (.aload_n 0, 38, 0, 0, 0), (.iconst 0, 39, 0, 0, 0), (.putfield 213, 40, 11, 43, 0), (.aload_n 0, 43, 0, 0, 0), (.iconst 0, 44, 0, 0, 0), (.putfield 246, 45, 11, 39, 0), (.aload_n 0, 48, 0, 0, 0), (.iconst 0, 49, 0, 0, 0), (.putfield 269, 50, 11, 48, 0), (.aload_n 0, 53, 0, 0, 0), (.invokevirtual 272, 54, 172, 0, 0), (.aload_n 0, 57, 0, 0, 0), (.getfield 246, 58, 11, 39, 0), (.ifCond .ne 17, 61, 42, 0, 0), (.aload_n 0, 64, 0, 0, 0), (.getfield 222, 65, 11, 41, 0), (.ifCond .eq 10, 68, 42, 0, 0), (.aload_n 0, 71, 0, 0, 0), (.invokevirtual 287, 72, 180, 0, 0), (.goto (-18), 75, 33, 0, 0), (.aload_n 0, 78, 0, 0, 0), (.aload_n 0, 79, 0, 0, 0), (.getfield 246, 80, 11, 39, 0), (.putfield 91, 83, 11, 37, 0), (.aload_n 0, 86, 0, 0, 0), (.aload_n 0, 87, 0, 0, 0), (.getfield 246, 88, 11, 39, 0), (.ifCond .ne 7, 91, 52, 0, 0), (.iconst (-1), 94, 0, 0, 0), (.goto 7, 95, 54, 0, 0), (.aload_n 0, 98, 0, 0, 0), (.getfield 249, 99, 11, 40, 0), (.putfield 94, 102, 11, 38, 0), (.aload_n 0, 105, 0, 0, 0), (.getfield 246, 106, 11, 39, 0), (.ifCond .le 10, 109, 62, 0, 0), (.aload_n 0, 112, 0, 0, 0), (.bipush 8, 113, 0, 0, 0), (.invokevirtual 134, 115, 143, 1, 0), (.ireturn, 118, 0, 0, 0), (.aload_n 0, 119, 0, 0, 0), (.aload_n 0, 120, 0, 0, 0), (.getfield 269, 121, 11, 48, 0), (.putfield 290, 124, 11, 47, 0), (.iconst 0, 127, 0, 0, 0), (.istore_n 2, 128, 0, 0, 0), (.iload_n 2, 129, 0, 0, 0), (.aload_n 0, 130, 0, 0, 0), (.getfield 290, 131, 11, 47, 0), (.if_icmp .ge 83, 134, 122, 0, 0), (.aload_n 0, 137, 0, 0, 0), (.getfield 97, 138, 11, 49, 2), (.iload_n 2, 141, 0, 0, 0), (.aload_n 0, 142, 0, 0, 0), (.getfield 109, 143, 11, 53, 2), (.iload_n 2, 146, 0, 0, 0), (.iaload, 147, 0, 0, 0), (.iastore, 148, 0, 0, 0), (.bipush 6, 149, 0, 0, 0), (.iload_n 2, 151, 0, 0, 0), (.imul, 152, 0, 0, 0), (.istore_n 3, 153, 0, 0, 0), (.iload_n 3, 154, 0, 0, 0), (.bipush 6, 155, 0, 0, 0), (.iload_n 2, 157, 0, 0, 0), (.imul, 158, 0, 0, 0), (.aload_n 0, 159, 0, 0, 0), (.getfield 97, 160, 11, 49, 2), (.iload_n 2, 163, 0, 0, 0), (.iaload, 164, 0, 0, 0), (.iadd, 165, 0, 0, 0), (.if_icmp .ge 45, 166, 120, 0, 0), (.aload_n 0, 169, 0, 0, 0), (.getfield 100, 170, 11, 50, 2), (.iload_n 3, 173, 0, 0, 0), (.aload_n 0, 174, 0, 0, 0), (.getfield 112, 175, 11, 54, 2), (.iload_n 3, 178, 0, 0, 0), (.iaload, 179, 0, 0, 0), (.iastore, 180, 0, 0, 0), (.aload_n 0, 181, 0, 0, 0), (.getfield 103, 182, 11, 51, 2), (.iload_n 3, 185, 0, 0, 0), (.aload_n 0, 186, 0, 0, 0), (.getfield 115, 187, 11, 55, 2), (.iload_n 3, 190, 0, 0, 0), (.iaload, 191, 0, 0, 0), (.iastore, 192, 0, 0, 0), (.aload_n 0, 193, 0, 0, 0), (.getfield 106, 194, 11, 52, 2), (.iload_n 3, 197, 0, 0, 0), (.aload_n 0, 198, 0, 0, 0), (.getfield 118, 199, 11, 56, 2), (.iload_n 3, 202, 0, 0, 0), (.iaload, 203, 0, 0, 0), (.iastore, 204, 0, 0, 0), (.iinc 3 1, 205, 0, 0, 0), (.goto (-54), 208, 84, 0, 0), (.iinc 2 1, 211, 0, 0, 0), (.goto (-85), 214, 68, 0, 0), (.aload_n 0, 217, 0, 0, 0), (.getfield 290, 218, 11, 47, 0), (.ireturn, 221, 0, 0, 0)]
def am_c184 : List am_E := [(.aload_n 0, 0, 0, 0, 0), (.iconst 0, 1, 0, 0, 0), (.putfield 125, 2, 11, 1, 0), (.iload_n 1, 5, 0, 0, 0), (.ifCond .ne 10, 6, 8, 0, 0), (.aload_n 0, 9, 0, 0, 0), (.getfield 91, 10, 11, 37, 0), (.goto 16, 13, 15, 0, 0), (.iload_n 1, 16, 0, 0, 0), (.iconst 1, 17, 0, 0, 0), (.if_icmp .ne 10, 18, 14, 0, 0), (.aload_n 0, 21, 0, 0, 0), (.getfield 94, 22, 11, 38, 0), (.goto 4, 25, 15, 0, 0), (.iconst (-1), 28, 0, 0, 0), (.ireturn, 29, 0, 0, 0)]
def am_c185 : List am_E := [(.iconst 0, 0, 0, 0, 0), (.istore_n 2, 1, 0, 0, 0), (.iload_n 2, 2, 0, 0, 0), (.aload_n 0, 3, 0, 0, 0), (.getfield 290, 4, 11, 47, 0), (.if_icmp .ge 175, 7, 96, 0, 0), (.iconst 1, 10, 0, 0, 0), (.istore_n 3, 11, 0, 0, 0), (.bipush 6, 12, 0, 0, 0), (.iload_n 2, 14, 0, 0, 0), (.imul, 15, 0, 0, 0), (.istore 4, 16, 0, 0, 0), (.iload 4, 18, 0, 0, 0), (.bipush 6, 20, 0, 0, 0), (.iload_n 2, 22, 0, 0, 0), (.imul, 23, 0, 0, 0), (.aload_n 0, 24, 0, 0, 0), (.getfield 97, 25, 11, 49, 2), (.iload_n 2, 28, 0, 0, 0), (.iaload, 29, 0, 0, 0), (.iadd, 30, 0, 0, 0), (.if_icmp .ge 139, 31, 90, 0, 0), (.aload_n 0, 34, 0, 0, 0), (.getfield 100, 35, 11, 50, 2), (.iload 4, 38, 0, 0, 0), (.iaload, 40, 0, 0, 0), (.bipush 6, 41, 0, 0, 0), (.if_icmp .ge 18, 43, 36, 0, 0), (.aload_n 0, 46, 0, 0, 0), (.getfield 35, 47, 11, 13, 2), (.aload_n 0, 50, 0, 0, 0), (.getfield 100, 51, 11, 50, 2), (.iload 4, 54, 0, 0, 0), (.iaload, 56, 0, 0, 0), (.iaload, 57, 0, 0, 0), (.goto 28, 58, 49, 0, 0), (.aload_n 0, 61, 0, 0, 0), (.getfield 100, 62, 11, 50, 2), (.iload 4, 65, 0, 0, 0), (.iaload, 67, 0, 0, 0), (.bipush 6, 68, 0, 0, 0), (.if_icmp .ne 10, 70, 45, 0, 0), (.aload_n 0, 73, 0, 0, 0), (.invokevirtual 159, 74, 151, 0, 0), (.goto 9, 77, 49, 0, 0), (.aload_n 0, 80, 0, 0, 0), (.getfield 23, 81, 11, 9, 2), (.iload_n 1, 84, 0, 0, 0), (.iaload, 85, 0, 0, 0), (.istore 5, 86, 0, 0, 0), (.iload_n 3, 88, 0, 0, 0), (.ifCond .eq 73, 89, 86, 0, 0), (.aload_n 0, 92, 0, 0, 0), (.getfield 103, 93, 11, 51, 2), (.iload 4, 96, 0, 0, 0), (.iaload, 98, 0, 0, 0), (.bipush 60, 99, 0, 0, 0), (.if_icmp .ne 18, 101, 65, 0, 0), (.iload 5, 104, 0, 0, 0), (.aload_n 0, 106, 0, 0, 0), (.getfield 106, 107, 11, 52, 2), (.iload 4, 110, 0, 0, 0), (.iaload, 112, 0, 0, 0), (.if_icmp .ge 49, 113, 86, 0, 0), (.goto 42, 116, 84, 0, 0), (.aload_n 0, 119, 0, 0, 0), (.getfield 103, 120, 11, 51, 2), (.iload 4, 123, 0, 0, 0), (.iaload, 125, 0, 0, 0), (.bipush 62, 126, 0, 0, 0), (.if_icmp .ne 18, 128, 78, 0, 0), (.iload 5, 131, 0, 0, 0), (.aload_n 0, 133, 0, 0, 0), (.getfield 106, 134, 11, 52, 2), (.iload 4, 137, 0, 0, 0), (.iaload, 139, 0, 0, 0), (.if_icmp .le 22, 140, 86, 0, 0), (.goto 15, 143, 84, 0, 0), (.iload 5, 146, 0, 0, 0), (.aload_n 0, 148, 0, 0, 0), (.getfield 106, 149, 11, 52, 2), (.iload 4, 152, 0, 0, 0), (.iaload, 154, 0, 0, 0), (.if_icmp .ne 7, 155, 86, 0, 0), (.iconst 1, 158, 0, 0, 0), (.goto 4, 159, 87, 0, 0), (.iconst 0, 162, 0, 0, 0), (.istore_n 3, 163, 0, 0, 0), (.iinc 4 1, 164, 0, 0, 0), (.goto (-149), 167, 12, 0, 0), (.iload_n 3, 170, 0, 0, 0), (.ifCond .eq 5, 171, 94, 0, 0), (.iload_n 2, 174, 0, 0, 0), (.ireturn, 175, 0, 0, 0), (.iinc 2 1, 176, 0, 0, 0), (.goto (-177), 179, 2, 0, 0), (.iconst (-1), 182, 0, 0, 0), (.ireturn, 183, 0, 0, 0)]
def am_c186 : List am_E := [(.aload_n 0, 0, 0, 0, 0), (.iconst 0, 1, 0, 0, 0), (.putfield 125, 2, 11, 1, 0), (.aload_n 0, 5, 0, 0, 0), (.iconst 0, 6, 0, 0, 0), (.putfield 128, 7, 11, 0, 0), (.aload_n 0, 10, 0, 0, 0), (.iload_n 1, 11, 0, 0, 0), (.invokevirtual 138, 12, 145, 1, 0), (.ifCond .ne 9, 15, 14, 0, 0), (.aload_n 0, 18, 0, 0, 0), (.iconst 1, 19, 0, 0, 0), (.invokevirtual 134, 20, 143, 1, 0), (.ireturn, 23, 0, 0, 0), (.aload_n 0, 24, 0, 0, 0), (.iload_n 1, 25, 0, 0, 0), (.invokevirtual 155, 26, 150, 1, 0), (.aload_n 0, 29, 0, 0, 0), (.aload_n 0, 30, 0, 0, 0), (.getfield 176, 31, 11, 5, 0), (.invokevirtual 293, 34, 185, 1, 0), (.istore_n 2, 37, 0, 0, 0), (.iload_n 2, 38, 0, 0, 0), (.ifCond .ge 11, 39, 28, 0, 0), (.aload_n 0, 42, 0, 0, 0), (.iconst 5, 43, 0, 0, 0), (.invokevirtual 134, 44, 143, 1, 0), (.goto 4, 47, 29, 0, 0), (.iload_n 2, 50, 0, 0, 0), (.ireturn, 51, 0, 0, 0)]
def am_c187 : List am_E := [(.aload_n 0, 0, 0, 0, 0), (.iconst 0, 1, 0, 0, 0), (.putfield 125, 2, 11, 1, 0), (.aload_n 0, 5, 0, 0, 0), (.iconst 0, 6, 0, 0, 0), (.putfield 128, 7, 11, 0, 0), (.aload_n 0, 10, 0, 0, 0), (.iload_n 1, 11, 0, 0, 0), (.invokevirtual 138, 12, 145, 1, 0), (.ifCond .ne 9, 15, 14, 0, 0), (.aload_n 0, 18, 0, 0, 0), (.iconst 1, 19, 0, 0, 0), (.invokevirtual 134, 20, 143, 1, 0), (.ireturn, 23, 0, 0, 0), (.iload_n 2, 24, 0, 0, 0), (.ifCond .lt 22, 25, 26, 0, 0), (.iload_n 2, 28, 0, 0, 0), (.aload_n 0, 29, 0, 0, 0), (.getfield 290, 30, 11, 47, 0), (.if_icmp .ge 14, 33, 26, 0, 0), (.iload_n 3, 36, 0, 0, 0), (.iconst 1, 37, 0, 0, 0), (.if_icmp .lt 9, 38, 26, 0, 0), (.iload_n 3, 41, 0, 0, 0), (.bipush 60, 42, 0, 0, 0), (.if_icmp .le 9, 44, 30, 0, 0), (.aload_n 0, 47, 0, 0, 0), (.iconst 2, 48, 0, 0, 0), (.invokevirtual 134, 49, 143, 1, 0), (.ireturn, 52, 0, 0, 0), (.aload_n 0, 53, 0, 0, 0), (.getfield 176, 54, 11, 5, 0), (.iload_n 3, 57, 0, 0, 0), (.iadd, 58, 0, 0, 0), (.sipush 999, 59, 0, 0, 0), (.if_icmp .le 10, 62, 40, 0, 0), (.aload_n 0, 65, 0, 0, 0), (.bipush 6, 66, 0, 0, 0), (.invokevirtual 134, 68, 143, 1, 0), (.ireturn, 71, 0, 0, 0), (.aload_n 0, 72, 0, 0, 0), (.iload_n 1, 73, 0, 0, 0), (.invokevirtual 155, 74, 150, 1, 0), (.aload_n 0, 77, 0, 0, 0), (.getfield 176, 78, 11, 5, 0), (.istore 4, 81, 0, 0, 0), (.iload 4, 83, 0, 0, 0), (.aload_n 0, 85, 0, 0, 0), (.getfield 176, 86, 11, 5, 0), (.iload_n 3, 89, 0, 0, 0), (.iadd, 90, 0, 0, 0), (.if_icmp .ge 42, 91, 73, 0, 0), (.aload_n 0, 94, 0, 0, 0), (.iload 4, 95, 0, 0, 0), (.invokevirtual 293, 97, 185, 1, 0), (.iload_n 2, 100, 0, 0, 0), (.if_icmp .ne 6, 101, 59, 0, 0), (.iload 4, 104, 0, 0, 0), (.ireturn, 106, 0, 0, 0), (.aload_n 0, 107, 0, 0, 0), (.aload_n 0, 108, 0, 0, 0), (.getfield 23, 109, 11, 9, 2), (.iload 4, 112, 0, 0, 0), (.iaload, 114, 0, 0, 0), (.aload_n 0, 115, 0, 0, 0), (.getfield 26, 116, 11, 10, 2), (.iload 4, 119, 0, 0, 0), (.iaload, 121, 0, 0, 0), (.iconst 0, 122, 0, 0, 0), (.iconst 0, 123, 0, 0, 0), (.invokevirtual 179, 124, 155, 4, 0), (.iinc 4 1, 127, 0, 0, 0), (.goto (-47), 130, 46, 0, 0), (.aload_n 0, 133, 0, 0, 0), (.iconst 5, 134, 0, 0, 0), (.invokevirtual 134, 135, 143, 1, 0), (.ireturn, 138, 0, 0, 0)]
def am_c188 : List am_E := [(.iload_n 1, 0, 0, 0, 0), (.ifCond .lt 15, 1, 8, 0, 0), (.iload_n 1, 4, 0, 0, 0), (.aload_n 0, 5, 0, 0, 0), (.getfield 296, 6, 11, 21, 0), (.if_icmp .ge 7, 9, 8, 0, 0), (.iconst 1, 12, 0, 0, 0), (.goto 4, 13, 9, 0, 0), (.iconst 0, 16, 0, 0, 0), (.ireturn, 17, 1, 0, 0)]
def am_c189 : List am_E := [(.aload_n 0, 0, 0, 0, 0), (.iconst 0, 1, 0, 0, 0), (.putfield 125, 2, 11, 1, 0), (.aload_n 0, 5, 0, 0, 0), (.iconst 0, 6, 0, 0, 0), (.putfield 128, 7, 11, 0, 0), (.iload_n 1, 10, 0, 0, 0), (.invokestatic 173, 11, 146, 1, 1), (.ifCond .eq 12, 14, 13, 0, 0), (.iload_n 2, 17, 0, 0, 0), (.bipush 9, 18, 0, 0, 0), (.invokestatic 145, 20, 147, 2, 1), (.ifCond .ne 9, 23, 17, 0, 0), (.aload_n 0, 26, 0, 0, 0), (.iconst 2, 27, 0, 0, 0), (.invokevirtual 134, 28, 143, 1, 0), (.ireturn, 31, 0, 0, 0), (.aload_n 0, 32, 0, 0, 0), (.getfield 296, 33, 11, 21, 0), (.bipush 8, 36, 0, 0, 0), (.if_icmp .ne 9, 38, 25, 0, 0), (.aload_n 0, 41, 0, 0, 0), (.iconst 3, 42, 0, 0, 0), (.invokevirtual 134, 43, 143, 1, 0), (.ireturn, 46, 0, 0, 0), (.iconst 0, 47, 0, 0, 0), (.istore_n 3, 48, 0, 0, 0), (.iload_n 3, 49, 0, 0, 0), (.aload_n 0, 50, 0, 0, 0), (.getfield 296, 51, 11, 21, 0), (.if_icmp .ge 26, 54, 43, 0, 0), (.aload_n 0, 57, 0, 0, 0), (.getfield 60, 58, 11, 24, 2), (.iload_n 3, 61, 0, 0, 0), (.iaload, 62, 0, 0, 0), (.iload_n 1, 63, 0, 0, 0), (.if_icmp .ne 10, 64, 41, 0, 0), (.aload_n 0, 67, 0, 0, 0), (.bipush 7, 68, 0, 0, 0), (.invokevirtual 134, 70, 143, 1, 0), (.ireturn, 73, 0, 0, 0), (.iinc 3 1, 74, 0, 0, 0), (.goto (-28), 77, 27, 0, 0), (.aload_n 0, 80, 0, 0, 0), (.getfield 60, 81, 11, 24, 2), (.aload_n 0, 84, 0, 0, 0), (.getfield 296, 85, 11, 21, 0), (.iload_n 1, 88, 0, 0, 0), (.iastore, 89, 0, 0, 0), (.aload_n 0, 90, 0, 0, 0), (.getfield 63, 91, 11, 25, 2), (.aload_n 0, 94, 0, 0, 0), (.getfield 296, 95, 11, 21, 0), (.iload_n 2, 98, 0, 0, 0), (.iastore, 99, 0, 0, 0), (.iconst 0, 100, 0, 0, 0), (.istore_n 3, 101, 0, 0, 0), (.iload_n 3, 102, 0, 0, 0), (.bipush 8, 103, 0, 0, 0), (.if_icmp .ge 25, 105, 72, 0, 0), (.aload_n 0, 108, 0, 0, 0), (.getfield 66, 109, 11, 26, 2), (.bipush 8, 112, 0, 0, 0), (.aload_n 0, 114, 0, 0, 0), (.getfield 296, 115, 11, 21, 0), (.imul, 118, 0, 0, 0), (.iload_n 3, 119, 0, 0, 0), (.iadd, 120, 0, 0, 0), (.bipush 50, 121, 0, 0, 0), (.iastore, 123, 0, 0, 0), (.iinc 3 1, 124, 0, 0, 0), (.goto (-25), 127, 57, 0, 0), (.aload_n 0, 130, 0, 0, 0), (.dup, 131, 0, 0, 0), (.getfield 296, 132, 11, 21, 0), (.iconst 1, 135, 0, 0, 0), (.iadd, 136, 0, 0, 0), (.putfield 296, 137, 11, 21, 0), (.aload_n 0, 140, 0, 0, 0), (.getfield 296, 141, 11, 21, 0), (.iconst 1, 144, 0, 0, 0), (.isub, 145, 0, 0, 0), (.ireturn, 146, 0, 0, 0)]
def am_c190 : List am_E := [(.aload_n 0, 0, 0, 0, 0), (.iconst 0, 1, 0, 0, 0), (.putfield 125, 2, 11, 1, 0), (.aload_n 0, 5, 0, 0, 0), (.iconst 0, 6, 0, 0, 0), (.putfield 128, 7, 11, 0, 0), (.aload_n 0, 10, 0, 0, 0), (.iload_n 1, 11, 0, 0, 0), (.invokevirtual 299, 12, 188, 1, 0), (.ifCond .eq 11, 15, 14, 0, 0), (.aload_n 0, 18, 0, 0, 0), (.iload_n 2, 19, 0, 0, 0), (.invokevirtual 138, 20, 145, 1, 0), (.ifCond .ne 9, 23, 18, 0, 0), (.aload_n 0, 26, 0, 0, 0), (.iconst 1, 27, 0, 0, 0), (.invokevirtual 142, 28, 144, 1, 0), (.ireturn, 31, 1, 0, 0), (.iload_n 3, 32, 0, 0, 0), (.bipush 100, 33, 0, 0, 0), (.invokestatic 145, 35, 147, 2, 1), (.ifCond .ne 9, 38, 26, 0, 0), (.aload_n 0, 41, 0, 0, 0), (.iconst 2, 42, 0, 0, 0), (.invokevirtual 142, 43, 144, 1, 0), (.ireturn, 46, 1, 0, 0), (.aload_n 0, 47, 0, 0, 0), (.getfield 66, 48, 11, 26, 2), (.bipush 8, 51, 0, 0, 0), (.iload_n 1, 53, 0, 0, 0), (.imul, 54, 0, 0, 0), (.iload_n 2, 55, 0, 0, 0), (.iadd, 56, 0, 0, 0), (.iload_n 3, 57, 0, 0, 0), (.iastore, 58, 0, 0, 0), (.iconst 1, 59, 0, 0, 0), (.ireturn, 60, 1, 0, 0)]
def am_c191 : List am_E := [(.aload_n 0, 0, 0, 0, 0), (.iconst 0, 1, 0, 0, 0), (.putfield 125, 2, 11, 1, 0), (.aload_n 0, 5, 0, 0, 0), (.iconst 0, 6, 0, 0, 0), (.putfield 128, 7, 11, 0, 0), (.iload_n 1, 10, 0, 0, 0), (.bipush 60, 11, 0, 0, 0), (.invokestatic 145, 13, 147, 2, 1), (.ifCond .eq 12, 16, 14, 0, 0), (.iload_n 2, 19, 0, 0, 0), (.bipush 100, 20, 0, 0, 0), (.invokestatic 145, 22, 147, 2, 1), (.ifCond .ne 9, 25, 18, 0, 0), (.aload_n 0, 28, 0, 0, 0), (.iconst 2, 29, 0, 0, 0), (.invokevirtual 142, 30, 144, 1, 0), (.ireturn, 33, 1, 0, 0), (.aload_n 0, 34, 0, 0, 0), (.iload_n 1, 35, 0, 0, 0), (.putfield 53, 36, 11, 22, 0), (.aload_n 0, 39, 0, 0, 0), (.iload_n 2, 40, 0, 0, 0), (.putfield 57, 41, 11, 23, 0), (.iconst 1, 44, 0, 0, 0), (.ireturn, 45, 1, 0, 0)]
def am_c192 : List am_E := [(.aload_n 0, 0, 0, 0, 0), (.getfield 60, 1, 11, 24, 2), (.iload_n 1, 4, 0, 0, 0), (.iaload, 5, 0, 0, 0), (.aload_n 0, 6, 0, 0, 0), (.getfield 60, 7, 11, 24, 2), (.iload_n 2, 10, 0, 0, 0), (.iaload, 11, 0, 0, 0), (.if_icmp .ge 7, 12, 11, 0, 0), (.iload_n 1, 15, 0, 0, 0), (.goto 4, 16, 12, 0, 0), (.iload_n 2, 19, 0, 0, 0), (.istore_n 3, 20, 0, 0, 0), (.iload_n 1, 21, 0, 0, 0), (.iload_n 2, 22, 0, 0, 0), (.iadd, 23, 0, 0, 0), (.iload_n 3, 24, 0, 0, 0), (.isub, 25, 0, 0, 0), (.istore 4, 26, 0, 0, 0), (.aload_n 0, 28, 0, 0, 0), (.getfield 60, 29, 11, 24, 2), (.iload 4, 32, 0, 0, 0), (.iaload, 34, 0, 0, 0), (.aload_n 0, 35, 0, 0, 0), (.getfield 60, 36, 11, 24, 2), (.iload_n 3, 39, 0, 0, 0), (.iaload, 40, 0, 0, 0), (.isub, 41, 0, 0, 0), (.istore 5, 42, 0, 0, 0), (.iload 5, 44, 0, 0, 0), (.aload_n 0, 46, 0, 0, 0), (.getfield 53, 47, 11, 22, 0), (.if_icmp .lt 28, 50, 45, 0, 0), (.aload_n 0, 53, 0, 0, 0), (.getfield 63, 54, 11, 25, 2), (.iload 4, 57, 0, 0, 0), (.iaload, 59, 0, 0, 0), (.bipush 9, 60, 0, 0, 0), (.if_icmp .lt 12, 62, 43, 0, 0), (.iload 5, 65, 0, 0, 0), (.aload_n 0, 67, 0, 0, 0), (.getfield 57, 68, 11, 23, 0), (.if_icmp .le 7, 71, 45, 0, 0), (.iconst 1, 74, 0, 0, 0), (.goto 4, 75, 46, 0, 0), (.iconst 0, 78, 0, 0, 0), (.ireturn, 79, 1, 0, 0)]
def am_c193 : List am_E := [(.iconst 0, 0, 0, 0, 0), (.istore_n 3, 1, 0, 0, 0), (.iload_n 3, 2, 0, 0, 0), (.iload_n 1, 3, 0, 0, 0), (.if_icmp .ge 30, 4, 20, 0, 0), (.aload_n 0, 7, 0, 0, 0), (.getfield 69, 8, 11, 27, 2), (.iload_n 3, 11, 0, 0, 0), (.iaload, 12, 0, 0, 0), (.iload_n 2, 13, 0, 0, 0), (.if_icmp .ne 14, 14, 18, 0, 0), (.aload_n 0, 17, 0, 0, 0), (.iload_n 3, 18, 0, 0, 0), (.iload_n 1, 19, 0, 0, 0), (.invokevirtual 302, 20, 192, 2, 0), (.ifCond .ne 5, 23, 18, 0, 0), (.iconst 0, 26, 0, 0, 0), (.ireturn, 27, 1, 0, 0), (.iinc 3 1, 28, 0, 0, 0), (.goto (-29), 31, 2, 0, 0), (.iconst 1, 34, 0, 0, 0), (.ireturn, 35, 1, 0, 0)]
def am_c194 : List am_E := [(.bipush 6, 0, 0, 0, 0), (.aload_n 0, 2, 0, 0, 0), (.getfield 131, 3, 11, 4, 0), (.invokestatic 163, 6, 1002, 2, 1), (.istore_n 1, 9, 0, 0, 0), (.aload_n 0, 10, 0, 0, 0), (.getfield 75, 11, 11, 29, 2), (.aload_n 0, 14, 0, 0, 0), (.getfield 296, 15, 11, 21, 0), (.iconst 0, 18, 0, 0, 0), (.iastore, 19, 0, 0, 0), (.aload_n 0, 20, 0, 0, 0), (.getfield 296, 21, 11, 21, 0), (.iconst 1, 24, 0, 0, 0), (.isub, 25, 0, 0, 0), (.istore_n 2, 26, 0, 0, 0), (.iload_n 2, 27, 0, 0, 0), (.ifCond .lt 59, 28, 52, 0, 0), (.iconst 0, 31, 0, 0, 0), (.istore_n 3, 32, 0, 0, 0), (.iconst 0, 33, 0, 0, 0), (.istore 4, 34, 0, 0, 0), (.iload 4, 36, 0, 0, 0), (.iload_n 1, 38, 0, 0, 0), (.if_icmp .ge 26, 39, 38, 0, 0), (.iload_n 3, 42, 0, 0, 0), (.aload_n 0, 43, 0, 0, 0), (.getfield 66, 44, 11, 26, 2), (.bipush 8, 47, 0, 0, 0), (.iload_n 2, 49, 0, 0, 0), (.imul, 50, 0, 0, 0), (.iload 4, 51, 0, 0, 0), (.iadd, 53, 0, 0, 0), (.iaload, 54, 0, 0, 0), (.invokestatic 149, 55, 1001, 2, 1), (.istore_n 3, 58, 0, 0, 0), (.iinc 4 1, 59, 0, 0, 0), (.goto (-26), 62, 22, 0, 0), (.aload_n 0, 65, 0, 0, 0), (.getfield 75, 66, 11, 29, 2), (.iload_n 2, 69, 0, 0, 0), (.aload_n 0, 70, 0, 0, 0), (.getfield 75, 71, 11, 29, 2), (.iload_n 2, 74, 0, 0, 0), (.iconst 1, 75, 0, 0, 0), (.iadd, 76, 0, 0, 0), (.iaload, 77, 0, 0, 0), (.iload_n 3, 78, 0, 0, 0), (.iadd, 79, 0, 0, 0), (.iastore, 80, 0, 0, 0), (.iinc 2 (-1), 81, 0, 0, 0), (.goto (-57), 84, 16, 0, 0), (.iconst (-1), 87, 0, 0, 0), (.istore_n 2, 88, 0, 0, 0), (.iconst 0, 89, 0, 0, 0), (.istore_n 3, 90, 0, 0, 0), (.iconst 0, 91, 0, 0, 0), (.istore 4, 92, 0, 0, 0), (.aload_n 0, 94, 0, 0, 0), (.getfield 69, 95, 11, 27, 2), (.iconst 0, 98, 0, 0, 0), (.iconst (-1), 99, 0, 0, 0), (.iastore, 100, 0, 0, 0), (.iload 4, 101, 0, 0, 0), (.ifCond .lt 243, 103, 202, 0, 0), (.iload 4, 106, 0, 0, 0), (.aload_n 0, 108, 0, 0, 0), (.getfield 296, 109, 11, 21, 0), (.if_icmp .ne 48, 112, 92, 0, 0), (.iload_n 3, 115, 0, 0, 0), (.iload_n 2, 116, 0, 0, 0), (.if_icmp .le 37, 117, 90, 0, 0), (.iload_n 3, 120, 0, 0, 0), (.istore_n 2, 121, 0, 0, 0), (.iconst 0, 122, 0, 0, 0), (.istore 5, 123, 0, 0, 0), (.iload 5, 125, 0, 0, 0), (.aload_n 0, 127, 0, 0, 0), (.getfield 296, 128, 11, 21, 0), (.if_icmp .ge 23, 131, 90, 0, 0), (.aload_n 0, 134, 0, 0, 0), (.getfield 72, 135, 11, 28, 2), (.iload 5, 138, 0, 0, 0), (.aload_n 0, 140, 0, 0, 0), (.getfield 69, 141, 11, 27, 2), (.iload 5, 144, 0, 0, 0), (.iaload, 146, 0, 0, 0), (.iastore, 147, 0, 0, 0), (.iinc 5 1, 148, 0, 0, 0), (.goto (-26), 151, 76, 0, 0), (.iinc 4 (-1), 154, 0, 0, 0), (.goto (-56), 157, 63, 0, 0), (.aload_n 0, 160, 0, 0, 0), (.getfield 69, 161, 11, 27, 2), (.iload 4, 164, 0, 0, 0), (.iaload, 166, 0, 0, 0), (.ifCond .lt 24, 167, 111, 0, 0), (.iload_n 3, 170, 0, 0, 0), (.aload_n 0, 171, 0, 0, 0), (.getfield 66, 172, 11, 26, 2), (.bipush 8, 175, 0, 0, 0), (.iload 4, 177, 0, 0, 0), (.imul, 179, 0, 0, 0), (.aload_n 0, 180, 0, 0, 0), (.getfield 69, 181, 11, 27, 2), (.iload 4, 184, 0, 0, 0), (.iaload, 186, 0, 0, 0), (.iadd, 187, 0, 0, 0), (.iaload, 188, 0, 0, 0), (.isub, 189, 0, 0, 0), (.istore_n 3, 190, 0, 0, 0), (.aload_n 0, 191, 0, 0, 0), (.getfield 69, 192, 11, 27, 2), (.iload 4, 195, 0, 0, 0), (.dup2, 197, 0, 0, 0), (.iaload, 198, 0, 0, 0), (.iconst 1, 199, 0, 0, 0), (.iadd, 200, 0, 0, 0), (.iastore, 201, 0, 0, 0), (.aload_n 0, 202, 0, 0, 0), (.getfield 69, 203, 11, 27, 2), (.iload 4, 206, 0, 0, 0), (.iaload, 208, 0, 0, 0), (.iload_n 1, 209, 0, 0, 0), (.if_icmp .ge 67, 210, 164, 0, 0), (.aload_n 0, 213, 0, 0, 0), (.iload 4, 214, 0, 0, 0), (.aload_n 0, 216, 0, 0, 0), (.getfield 69, 217, 11, 27, 2), (.iload 4, 220, 0, 0, 0), (.iaload, 222, 0, 0, 0), (.invokevirtual 305, 223, 193, 2, 0), (.ifCond .eq 37, 226, 155, 0, 0), (.iload_n 3, 229, 0, 0, 0), (.aload_n 0, 230, 0, 0, 0), (.getfield 66, 231, 11, 26, 2), (.bipush 8, 234, 0, 0, 0), (.iload 4, 236, 0, 0, 0), (.imul, 238, 0, 0, 0), (.aload_n 0, 239, 0, 0, 0), (.getfield 69, 240, 11, 27, 2), (.iload 4, 243, 0, 0, 0), (.iaload, 245, 0, 0, 0), (.iadd, 246, 0, 0, 0), (.iaload, 247, 0, 0, 0), (.iadd, 248, 0, 0, 0), (.aload_n 0, 249, 0, 0, 0), (.getfield 75, 250, 11, 29, 2), (.iload 4, 253, 0, 0, 0), (.iconst 1, 255, 0, 0, 0), (.iadd, 256, 0, 0, 0), (.iaload, 257, 0, 0, 0), (.iadd, 258, 0, 0, 0), (.iload_n 2, 259, 0, 0, 0), (.if_icmp .gt 17, 260, 164, 0, 0), (.aload_n 0, 263, 0, 0, 0), (.getfield 69, 264, 11, 27, 2), (.iload 4, 267, 0, 0, 0), (.dup2, 269, 0, 0, 0), (.iaload, 270, 0, 0, 0), (.iconst 1, 271, 0, 0, 0), (.iadd, 272, 0, 0, 0), (.iastore, 273, 0, 0, 0), (.goto (-72), 274, 119, 0, 0), (.aload_n 0, 277, 0, 0, 0), (.getfield 69, 278, 11, 27, 2), (.iload 4, 281, 0, 0, 0), (.iaload, 283, 0, 0, 0), (.iload_n 1, 284, 0, 0, 0), (.if_icmp .ne 17, 285, 177, 0, 0), (.aload_n 0, 288, 0, 0, 0), (.getfield 69, 289, 11, 27, 2), (.iload 4, 292, 0, 0, 0), (.iconst (-1), 294, 0, 0, 0), (.iastore, 295, 0, 0, 0), (.iinc 4 (-1), 296, 0, 0, 0), (.goto (-198), 299, 63, 0, 0), (.iload_n 3, 302, 0, 0, 0), (.aload_n 0, 303, 0, 0, 0), (.getfield 66, 304, 11, 26, 2), (.bipush 8, 307, 0, 0, 0), (.iload 4, 309, 0, 0, 0), (.imul, 311, 0, 0, 0), (.aload_n 0, 312, 0, 0, 0), (.getfield 69, 313, 11, 27, 2), (.iload 4, 316, 0, 0, 0), (.iaload, 318, 0, 0, 0), (.iadd, 319, 0, 0, 0), (.iaload, 320, 0, 0, 0), (.iadd, 321, 0, 0, 0), (.istore_n 3, 322, 0, 0, 0), (.iinc 4 1, 323, 0, 0, 0), (.iload 4, 326, 0, 0, 0), (.aload_n 0, 328, 0, 0, 0), (.getfield 296, 329, 11, 21, 0), (.if_icmp .ge (-231), 332, 63, 0, 0), (.aload_n 0, 335, 0, 0, 0), (.getfield 69, 336, 11, 27, 2), (.iload 4, 339, 0, 0, 0), (.iconst (-1), 341, 0, 0, 0), (.iastore, 342, 0, 0, 0), (.goto (-242), 343, 63, 0, 0), (.iload_n 2, 346, 0, 0, 0), (.ireturn, 347, 0, 0, 0)]
def am_c195 : List am_E := [(.aload_n 0, 0, 0, 0, 0), (.iconst 0, 1, 0, 0, 0), (.putfield 125, 2, 11, 1, 0), (.aload_n 0, 5, 0, 0, 0), (.iconst 0, 6, 0, 0, 0), (.putfield 128, 7, 11, 0, 0), (.aload_n 0, 10, 0, 0, 0), (.invokevirtual 308, 11, 194, 0, 0), (.istore_n 1, 14, 0, 0, 0), (.iload_n 1, 15, 0, 0, 0), (.ifCond .ge 12, 16, 15, 0, 0), (.aload_n 0, 19, 0, 0, 0), (.bipush 6, 20, 0, 0, 0), (.invokevirtual 134, 22, 143, 1, 0), (.goto 4, 25, 16, 0, 0), (.iload_n 1, 28, 0, 0, 0), (.ireturn, 29, 0, 0, 0)]
def am_c196 : List am_E := [(.aload_n 0, 0, 0, 0, 0), (.iconst 0, 1, 0, 0, 0), (.putfield 125, 2, 11, 1, 0), (.aload_n 0, 5, 0, 0, 0), (.iconst 0, 6, 0, 0, 0), (.putfield 128, 7, 11, 0, 0), (.aload_n 0, 10, 0, 0, 0), (.iload_n 1, 11, 0, 0, 0), (.invokevirtual 299, 12, 188, 1, 0), (.ifCond .ne 9, 15, 14, 0, 0), (.aload_n 0, 18, 0, 0, 0), (.iconst 1, 19, 0, 0, 0), (.invokevirtual 134, 20, 143, 1, 0), (.ireturn, 23, 0, 0, 0), (.aload_n 0, 24, 0, 0, 0), (.invokevirtual 308, 25, 194, 0, 0), (.ifCond .ge 12, 28, 21, 0, 0), (.aload_n 0, 31, 0, 0, 0), (.bipush 6, 32, 0, 0, 0), (.invokevirtual 134, 34, 143, 1, 0), (.goto 9, 37, 25, 0, 0), (.aload_n 0, 40, 0, 0, 0), (.getfield 72, 41, 11, 28, 2), (.iload_n 1, 44, 0, 0, 0), (.iaload, 45, 0, 0, 0), (.ireturn, 46, 0, 0, 0)]
def am_c197 : List am_E := [(.aload_n 0, 0, 0, 0, 0), (.iconst 0, 1, 0, 0, 0), (.putfield 125, 2, 11, 1, 0), (.aload_n 0, 5, 0, 0, 0), (.iconst 0, 6, 0, 0, 0), (.putfield 128, 7, 11, 0, 0), (.aload_n 0, 10, 0, 0, 0), (.iload_n 1, 11, 0, 0, 0), (.invokevirtual 299, 12, 188, 1, 0), (.ifCond .ne 9, 15, 14, 0, 0), (.aload_n 0, 18, 0, 0, 0), (.iconst 1, 19, 0, 0, 0), (.invokevirtual 142, 20, 144, 1, 0), (.ireturn, 23, 1, 0, 0), (.iload_n 2, 24, 0, 0, 0), (.ifCond .lt 17, 25, 23, 0, 0), (.iload_n 2, 28, 0, 0, 0), (.iconst 2, 29, 0, 0, 0), (.if_icmp .gt 12, 30, 23, 0, 0), (.iload_n 3, 33, 0, 0, 0), (.bipush 10, 34, 0, 0, 0), (.invokestatic 145, 36, 147, 2, 1), (.ifCond .ne 9, 39, 27, 0, 0), (.aload_n 0, 42, 0, 0, 0), (.iconst 2, 43, 0, 0, 0), (.invokevirtual 142, 44, 144, 1, 0), (.ireturn, 47, 1, 0, 0), (.aload_n 0, 48, 0, 0, 0), (.getfield 311, 49, 11, 30, 0), (.bipush 100, 52, 0, 0, 0), (.if_icmp .ne 9, 54, 35, 0, 0), (.aload_n 0, 57, 0, 0, 0), (.iconst 3, 58, 0, 0, 0), (.invokevirtual 142, 59, 144, 1, 0), (.ireturn, 62, 1, 0, 0), (.aload_n 0, 63, 0, 0, 0), (.getfield 78, 64, 11, 31, 2), (.aload_n 0, 67, 0, 0, 0), (.getfield 311, 68, 11, 30, 0), (.iload_n 1, 71, 0, 0, 0), (.iastore, 72, 0, 0, 0), (.aload_n 0, 73, 0, 0, 0), (.getfield 81, 74, 11, 32, 2), (.aload_n 0, 77, 0, 0, 0), (.getfield 311, 78, 11, 30, 0), (.iload_n 2, 81, 0, 0, 0), (.iastore, 82, 0, 0, 0), (.aload_n 0, 83, 0, 0, 0), (.getfield 84, 84, 11, 33, 2), (.aload_n 0, 87, 0, 0, 0), (.getfield 311, 88, 11, 30, 0), (.iload_n 3, 91, 0, 0, 0), (.iastore, 92, 0, 0, 0), (.aload_n 0, 93, 0, 0, 0), (.dup, 94, 0, 0, 0), (.getfield 311, 95, 11, 30, 0), (.iconst 1, 98, 0, 0, 0), (.iadd, 99, 0, 0, 0), (.putfield 311, 100, 11, 30, 0), (.iconst 1, 103, 0, 0, 0), (.ireturn, 104, 1, 0, 0)]
def am_c198 : List am_E := [(.iconst 0, 0, 0, 0, 0), (.istore_n 2, 1, 0, 0, 0), (.iconst 0, 2, 0, 0, 0), (.istore_n 3, 3, 0, 0, 0), (.iload_n 3, 4, 0, 0, 0), (.aload_n 0, 5, 0, 0, 0), (.getfield 311, 6, 11, 30, 0), (.if_icmp .ge 32, 9, 25, 0, 0), (.iload_n 2, 12, 0, 0, 0), (.iload_n 1, 13, 0, 0, 0), (.iconst 3, 14, 0, 0, 0), (.if_icmp .eq 13, 15, 18, 0, 0), (.aload_n 0, 18, 0, 0, 0), (.getfield 81, 19, 11, 32, 2), (.iload_n 3, 22, 0, 0, 0), (.iaload, 23, 0, 0, 0), (.iload_n 1, 24, 0, 0, 0), (.if_icmp .ne 7, 25, 20, 0, 0), (.iconst 1, 28, 0, 0, 0), (.goto 4, 29, 21, 0, 0), (.iconst 0, 32, 0, 0, 0), (.iadd, 33, 0, 0, 0), (.istore_n 2, 34, 0, 0, 0), (.iinc 3 1, 35, 0, 0, 0), (.goto (-34), 38, 4, 0, 0), (.iload_n 2, 41, 0, 0, 0), (.ireturn, 42, 0, 0, 0)]
def am_c199 : List am_E := [(.iconst 0, 0, 0, 0, 0), (.istore_n 2, 1, 0, 0, 0), (.iconst 0, 2, 0, 0, 0), (.istore_n 3, 3, 0, 0, 0), (.iload_n 3, 4, 0, 0, 0), (.aload_n 0, 5, 0, 0, 0), (.getfield 311, 6, 11, 30, 0), (.if_icmp .ge 37, 9, 28, 0, 0), (.iload_n 2, 12, 0, 0, 0), (.iload_n 1, 13, 0, 0, 0), (.iconst 3, 14, 0, 0, 0), (.if_icmp .eq 13, 15, 18, 0, 0), (.aload_n 0, 18, 0, 0, 0), (.getfield 81, 19, 11, 32, 2), (.iload_n 3, 22, 0, 0, 0), (.iaload, 23, 0, 0, 0), (.iload_n 1, 24, 0, 0, 0), (.if_icmp .ne 12, 25, 23, 0, 0), (.aload_n 0, 28, 0, 0, 0), (.getfield 84, 29, 11, 33, 2), (.iload_n 3, 32, 0, 0, 0), (.iaload, 33, 0, 0, 0), (.goto 4, 34, 24, 0, 0), (.iconst 0, 37, 0, 0, 0), (.iadd, 38, 0, 0, 0), (.istore_n 2, 39, 0, 0, 0), (.iinc 3 1, 40, 0, 0, 0), (.goto (-39), 43, 4, 0, 0), (.iload_n 2, 46, 0, 0, 0), (.ireturn, 47, 0, 0, 0)]
def am_c200 : List am_E := [(.aload_n 0, 0, 0, 0, 0), (.iconst 0, 1, 0, 0, 0), (.putfield 125, 2, 11, 1, 0), (.aload_n 0, 5, 0, 0, 0), (.iconst 0, 6, 0, 0, 0), (.putfield 128, 7, 11, 0, 0), (.iload_n 1, 10, 0, 0, 0), (.ifCond .lt 8, 11, 11, 0, 0), (.iload_n 1, 14, 0, 0, 0), (.iconst 2, 15, 0, 0, 0), (.if_icmp .le 9, 16, 15, 0, 0), (.aload_n 0, 19, 0, 0, 0), (.iconst 2, 20, 0, 0, 0), (.invokevirtual 142, 21, 144, 1, 0), (.ireturn, 24, 1, 0, 0), (.aload_n 0, 25, 0, 0, 0), (.iload_n 1, 26, 0, 0, 0), (.invokevirtual 314, 27, 198, 1, 0), (.i2l, 30, 0, 0, 0), (.lstore_n 2, 31, 0, 0, 0), (.lload_n 2, 32, 0, 0, 0), (.lconst 0, 33, 0, 0, 0), (.lcmp, 34, 0, 0, 0), (.ifCond .ne 10, 35, 29, 0, 0), (.aload_n 0, 38, 0, 0, 0), (.lconst 0, 39, 0, 0, 0), (.lconst 1, 40, 0, 0, 0), (.invokevirtual 203, 41, 165, 2, 0), (.ireturn, 44, 1, 0, 0), (.aload_n 0, 45, 0, 0, 0), (.iconst 3, 46, 0, 0, 0), (.invokevirtual 314, 47, 198, 1, 0), (.i2l, 50, 0, 0, 0), (.lstore 4, 51, 0, 0, 0), (.aload_n 0, 53, 0, 0, 0), (.aload_n 0, 54, 0, 0, 0), (.iload_n 1, 55, 0, 0, 0), (.invokevirtual 317, 56, 199, 1, 0), (.i2l, 59, 0, 0, 0), (.lload 4, 60, 0, 0, 0), (.lmul, 62, 0, 0, 0), (.aload_n 0, 63, 0, 0, 0), (.iconst 3, 64, 0, 0, 0), (.invokevirtual 317, 65, 199, 1, 0), (.i2l, 68, 0, 0, 0), (.lload_n 2, 69, 0, 0, 0), (.lmul, 70, 0, 0, 0), (.lsub, 71, 0, 0, 0), (.lload_n 2, 72, 0, 0, 0), (.lload 4, 73, 0, 0, 0), (.lmul, 75, 0, 0, 0), (.invokevirtual 203, 76, 165, 2, 0), (.ireturn, 79, 1, 0, 0)]
def am_c201 : List am_E := [(.aload_n 0, 0, 0, 0, 0), (.iconst 0, 1, 0, 0, 0), (.putfield 125, 2, 11, 1, 0), (.aload_n 0, 5, 0, 0, 0), (.iconst 0, 6, 0, 0, 0), (.putfield 128, 7, 11, 0, 0), (.aload_n 0, 10, 0, 0, 0), (.iload_n 1, 11, 0, 0, 0), (.invokevirtual 299, 12, 188, 1, 0), (.ifCond .ne 9, 15, 14, 0, 0), (.aload_n 0, 18, 0, 0, 0), (.iconst 1, 19, 0, 0, 0), (.invokevirtual 142, 20, 144, 1, 0), (.ireturn, 23, 1, 0, 0), (.iconst 0, 24, 0, 0, 0), (.istore_n 2, 25, 0, 0, 0), (.lconst 0, 26, 0, 0, 0), (.lstore_n 3, 27, 0, 0, 0), (.iconst 0, 28, 0, 0, 0), (.istore 5, 29, 0, 0, 0), (.iload 5, 31, 0, 0, 0), (.aload_n 0, 33, 0, 0, 0), (.getfield 311, 34, 11, 30, 0), (.if_icmp .ge 37, 37, 42, 0, 0), (.aload_n 0, 40, 0, 0, 0), (.getfield 78, 41, 11, 31, 2), (.iload 5, 44, 0, 0, 0), (.iaload, 46, 0, 0, 0), (.iload_n 1, 47, 0, 0, 0), (.if_icmp .eq 6, 48, 31, 0, 0), (.goto 17, 51, 40, 0, 0), (.iinc 2 1, 54, 0, 0, 0), (.lload_n 3, 57, 0, 0, 0), (.aload_n 0, 58, 0, 0, 0), (.getfield 84, 59, 11, 33, 2), (.iload 5, 62, 0, 0, 0), (.iaload, 64, 0, 0, 0), (.i2l, 65, 0, 0, 0), (.ladd, 66, 0, 0, 0), (.lstore_n 3, 67, 0, 0, 0), (.iinc 5 1, 68, 0, 0, 0), (.goto (-40), 71, 20, 0, 0), (.iload_n 2, 74, 0, 0, 0), (.ifCond .ne 9, 75, 48, 0, 0), (.aload_n 0, 78, 0, 0, 0), (.iconst 5, 79, 0, 0, 0), (.invokevirtual 142, 80, 144, 1, 0), (.ireturn, 83, 1, 0, 0), (.aload_n 0, 84, 0, 0, 0), (.iconst 3, 85, 0, 0, 0), (.invokevirtual 314, 86, 198, 1, 0), (.i2l, 89, 0, 0, 0), (.lstore 5, 90, 0, 0, 0), (.iconst 0, 92, 0, 0, 0), (.istore 7, 93, 0, 0, 0), (.iload 7, 95, 0, 0, 0), (.iconst 3, 97, 0, 0, 0), (.if_icmp .ge 25, 98, 69, 0, 0), (.lload 5, 101, 0, 0, 0), (.iconst 1, 103, 0, 0, 0), (.aload_n 0, 104, 0, 0, 0), (.iload 7, 105, 0, 0, 0), (.invokevirtual 314, 107, 198, 1, 0), (.invokestatic 149, 110, 1001, 2, 1), (.i2l, 113, 0, 0, 0), (.lmul, 114, 0, 0, 0), (.lstore 5, 115, 0, 0, 0), (.iinc 7 1, 117, 0, 0, 0), (.goto (-25), 120, 55, 0, 0), (.lload_n 3, 123, 0, 0, 0), (.lload 5, 124, 0, 0, 0), (.lmul, 126, 0, 0, 0), (.lstore 7, 127, 0, 0, 0), (.iconst 0, 129, 0, 0, 0), (.istore 9, 130, 0, 0, 0), (.iload 9, 132, 0, 0, 0), (.aload_n 0, 134, 0, 0, 0), (.getfield 311, 135, 11, 30, 0), (.if_icmp .ge 72, 138, 119, 0, 0), (.aload_n 0, 141, 0, 0, 0), (.getfield 78, 142, 11, 31, 2), (.iload 9, 145, 0, 0, 0), (.iaload, 147, 0, 0, 0), (.iload_n 1, 148, 0, 0, 0), (.if_icmp .eq 6, 149, 86, 0, 0), (.goto 52, 152, 117, 0, 0), (.aload_n 0, 155, 0, 0, 0), (.getfield 81, 156, 11, 32, 2), (.iload 9, 159, 0, 0, 0), (.iaload, 161, 0, 0, 0), (.istore 10, 162, 0, 0, 0), (.lload 7, 164, 0, 0, 0), (.lload 5, 166, 0, 0, 0), (.aload_n 0, 168, 0, 0, 0), (.iload 10, 169, 0, 0, 0), (.invokevirtual 314, 171, 198, 1, 0), (.i2l, 174, 0, 0, 0), (.ldiv, 175, 0, 0, 0), (.aload_n 0, 176, 0, 0, 0), (.iload 10, 177, 0, 0, 0), (.invokevirtual 317, 179, 199, 1, 0), (.i2l, 182, 0, 0, 0), (.lmul, 183, 0, 0, 0), (.lload 5, 184, 0, 0, 0), (.aload_n 0, 186, 0, 0, 0), (.iconst 3, 187, 0, 0, 0), (.invokevirtual 314, 188, 198, 1, 0), (.i2l, 191, 0, 0, 0), (.ldiv, 192, 0, 0, 0), (.aload_n 0, 193, 0, 0, 0), (.iconst 3, 194, 0, 0, 0), (.invokevirtual 317, 195, 199, 1, 0), (.i2l, 198, 0, 0, 0), (.lmul, 199, 0, 0, 0), (.lsub, 200, 0, 0, 0), (.lsub, 201, 0, 0, 0), (.lstore 7, 202, 0, 0, 0), (.iinc 9 1, 204, 0, 0, 0), (.goto (-75), 207, 75, 0, 0), (.aload_n 0, 210, 0, 0, 0), (.lload 7, 211, 0, 0, 0), (.lload 5, 213, 0, 0, 0), (.iload_n 2, 215, 0, 0, 0), (.i2l, 216, 0, 0, 0), (.lmul, 217, 0, 0, 0), (.invokevirtual 203, 218, 165, 2, 0), (.ireturn, 221, 1, 0, 0)]
def am_c202 : List am_E := [(.aload_n 0, 0, 0, 0, 0), (.iconst 0, 1, 0, 0, 0), (.putfield 125, 2, 11, 1, 0), (.aload_n 0, 5, 0, 0, 0), (.getfield 194, 6, 11, 2, 1), (.lreturn, 9, 0, 0, 0)]
def am_c203 : List am_E := [(.aload_n 0, 0, 0, 0, 0), (.iconst 0, 1, 0, 0, 0), (.putfield 125, 2, 11, 1, 0), (.aload_n 0, 5, 0, 0, 0), (.getfield 7, 6, 11, 3, 1), (.lreturn, 9, 0, 0, 0)]
def am_c204 : List am_E := [(.new 7, 0, 10, 0, 0), (.dup, 3, 0, 0, 0), (.invokespecial 9, 4, 104, 0, 2), (.astore_n 1, 7, 0, 0, 0), (.new 10, 8, 11, 0, 0), (.dup, 11, 0, 0, 0), (.invokespecial 12, 12, 141, 0, 2), (.astore_n 2, 15, 0, 0, 0), (.iconst 0, 16, 0, 0, 0), (.istore_n 3, 17, 0, 0, 0), (.iload_n 3, 18, 0, 0, 0), (.aload_n 0, 19, 0, 0, 0), (.arraylength, 20, 0, 0, 0), (.bipush 8, 21, 0, 0, 0), (.isub, 23, 0, 0, 0), (.if_icmp .gt 1038, 24, 740, 0, 0), (.aload_n 0, 27, 0, 0, 0), (.iload_n 3, 28, 0, 0, 0), (.iaload, 29, 0, 0, 0), (.bipush 31, 30, 0, 0, 0), (.iand, 32, 0, 0, 0), (.tableswitch 1023 0 27 #[127, 140, 153, 240, 273, 342, 375, 408, 421, 434, 477, 510, 563, 586, 649, 672, 695, 718, 761, 794, 837, 870, 883, 906, 949, 972, 995, 1009], 33, 3, 127, 0), (.aload_n 1, 160, 0, 0, 0), (.invokevirtual 13, 161, 105, 0, 0), (.aload_n 2, 164, 0, 0, 0), (.invokevirtual 17, 165, 142, 0, 0), (.if_icmp .eq 888, 168, 738, 0, 0), (.iconst 0, 171, 0, 0, 0), (.ireturn, 172, 1, 0, 0), (.aload_n 1, 173, 0, 0, 0), (.invokevirtual 18, 174, 106, 0, 0), (.aload_n 2, 177, 0, 0, 0), (.invokevirtual 21, 178, 148, 0, 0), (.if_icmp .eq 875, 181, 738, 0, 0), (.iconst 0, 184, 0, 0, 0), (.ireturn, 185, 1, 0, 0), (.aload_n 1, 186, 0, 0, 0), (.aload_n 0, 187, 0, 0, 0), (.iload_n 3, 188, 0, 0, 0), (.iconst 1, 189, 0, 0, 0), (.iadd, 190, 0, 0, 0), (.iaload, 191, 0, 0, 0), (.aload_n 0, 192, 0, 0, 0), (.iload_n 3, 193, 0, 0, 0), (.iconst 2, 194, 0, 0, 0), (.iadd, 195, 0, 0, 0), (.iaload, 196, 0, 0, 0), (.aload_n 0, 197, 0, 0, 0), (.iload_n 3, 198, 0, 0, 0), (.iconst 3, 199, 0, 0, 0), (.iadd, 200, 0, 0, 0), (.iaload, 201, 0, 0, 0), (.aload_n 0, 202, 0, 0, 0), (.iload_n 3, 203, 0, 0, 0), (.iconst 4, 204, 0, 0, 0), (.iadd, 205, 0, 0, 0), (.iaload, 206, 0, 0, 0), (.aload_n 0, 207, 0, 0, 0), (.iload_n 3, 208, 0, 0, 0), (.iconst 5, 209, 0, 0, 0), (.iadd, 210, 0, 0, 0), (.iaload, 211, 0, 0, 0), (.aload_n 0, 212, 0, 0, 0), (.iload_n 3, 213, 0, 0, 0), (.bipush 6, 214, 0, 0, 0), (.iadd, 216, 0, 0, 0), (.iaload, 217, 0, 0, 0), (.aload_n 0, 218, 0, 0, 0), (.iload_n 3, 219, 0, 0, 0), (.bipush 7, 220, 0, 0, 0), (.iadd, 222, 0, 0, 0), (.iaload, 223, 0, 0, 0), (.invokevirtual 22, 224, 107, 7, 0), (.aload_n 2, 227, 0, 0, 0), (.aload_n 0, 228, 0, 0, 0), (.iload_n 3, 229, 0, 0, 0), (.iconst 1, 230, 0, 0, 0), (.iadd, 231, 0, 0, 0), (.iaload, 232, 0, 0, 0), (.aload_n 0, 233, 0, 0, 0), (.iload_n 3, 234, 0, 0, 0), (.iconst 2, 235, 0, 0, 0), (.iadd, 236, 0, 0, 0), (.iaload, 237, 0, 0, 0), (.aload_n 0, 238, 0, 0, 0), (.iload_n 3, 239, 0, 0, 0), (.iconst 3, 240, 0, 0, 0), (.iadd, 241, 0, 0, 0), (.iaload, 242, 0, 0, 0), (.aload_n 0, 243, 0, 0, 0), (.iload_n 3, 244, 0, 0, 0), (.iconst 4, 245, 0, 0, 0), (.iadd, 246, 0, 0, 0), (.iaload, 247, 0, 0, 0), (.aload_n 0, 248, 0, 0, 0), (.iload_n 3, 249, 0, 0, 0), (.iconst 5, 250, 0, 0, 0), (.iadd, 251, 0, 0, 0), (.iaload, 252, 0, 0, 0), (.aload_n 0, 253, 0, 0, 0), (.iload_n 3, 254, 0, 0, 0), (.bipush 6, 255, 0, 0, 0), (.iadd, 257, 0, 0, 0), (.iaload, 258, 0, 0, 0), (.aload_n 0, 259, 0, 0, 0), (.iload_n 3, 260, 0, 0, 0), (.bipush 7, 261, 0, 0, 0), (.iadd, 263, 0, 0, 0), (.iaload, 264, 0, 0, 0), (.invokevirtual 26, 265, 149, 7, 0), (.if_icmp .eq 788, 268, 738, 0, 0), (.iconst 0, 271, 0, 0, 0), (.ireturn, 272, 1, 0, 0), (.aload_n 1, 273, 0, 0, 0), (.aload_n 0, 274, 0, 0, 0), (.iload_n 3, 275, 0, 0, 0), (.iconst 1, 276, 0, 0, 0), (.iadd, 277, 0, 0, 0), (.iaload, 278, 0, 0, 0), (.aload_n 0, 279, 0, 0, 0), (.iload_n 3, 280, 0, 0, 0), (.iconst 2, 281, 0, 0, 0), (.iadd, 282, 0, 0, 0), (.iaload, 283, 0, 0, 0), (.invokevirtual 27, 284, 108, 2, 0), (.aload_n 2, 287, 0, 0, 0), (.aload_n 0, 288, 0, 0, 0), (.iload_n 3, 289, 0, 0, 0), (.iconst 1, 290, 0, 0, 0), (.iadd, 291, 0, 0, 0), (.iaload, 292, 0, 0, 0), (.aload_n 0, 293, 0, 0, 0), (.iload_n 3, 294, 0, 0, 0), (.iconst 2, 295, 0, 0, 0), (.iadd, 296, 0, 0, 0), (.iaload, 297, 0, 0, 0), (.invokevirtual 31, 298, 152, 2, 0), (.if_icmp .eq 755, 301, 738, 0, 0), (.iconst 0, 304, 0, 0, 0), (.ireturn, 305, 1, 0, 0), (.aload_n 1, 306, 0, 0, 0), (.aload_n 0, 307, 0, 0, 0), (.iload_n 3, 308, 0, 0, 0), (.iconst 1, 309, 0, 0, 0), (.iadd, 310, 0, 0, 0), (.iaload, 311, 0, 0, 0), (.aload_n 0, 312, 0, 0, 0), (.iload_n 3, 313, 0, 0, 0), (.iconst 2, 314, 0, 0, 0), (.iadd, 315, 0, 0, 0), (.iaload, 316, 0, 0, 0), (.aload_n 0, 317, 0, 0, 0), (.iload_n 3, 318, 0, 0, 0), (.iconst 3, 319, 0, 0, 0), (.iadd, 320, 0, 0, 0), (.iaload, 321, 0, 0, 0), (.aload_n 0, 322, 0, 0, 0), (.iload_n 3, 323, 0, 0, 0), (.iconst 4, 324, 0, 0, 0), (.iadd, 325, 0, 0, 0), (.iaload, 326, 0, 0, 0), (.ifCond .eq 7, 327, 164, 0, 0), (.iconst 1, 330, 0, 0, 0), (.goto 4, 331, 165, 0, 0), (.iconst 0, 334, 0, 0, 0), (.invokevirtual 32, 335, 109, 4, 0), (.aload_n 2, 338, 0, 0, 0), (.aload_n 0, 339, 0, 0, 0), (.iload_n 3, 340, 0, 0, 0), (.iconst 1, 341, 0, 0, 0), (.iadd, 342, 0, 0, 0), (.iaload, 343, 0, 0, 0), (.aload_n 0, 344, 0, 0, 0), (.iload_n 3, 345, 0, 0, 0), (.iconst 2, 346, 0, 0, 0), (.iadd, 347, 0, 0, 0), (.iaload, 348, 0, 0, 0), (.aload_n 0, 349, 0, 0, 0), (.iload_n 3, 350, 0, 0, 0), (.iconst 3, 351, 0, 0, 0), (.iadd, 352, 0, 0, 0), (.iaload, 353, 0, 0, 0), (.aload_n 0, 354, 0, 0, 0), (.iload_n 3, 355, 0, 0, 0), (.iconst 4, 356, 0, 0, 0), (.iadd, 357, 0, 0, 0), (.iaload, 358, 0, 0, 0), (.ifCond .eq 7, 359, 190, 0, 0), (.iconst 1, 362, 0, 0, 0), (.goto 4, 363, 191, 0, 0), (.iconst 0, 366, 0, 0, 0), (.invokevirtual 36, 367, 156, 4, 0), (.if_icmp .eq 686, 370, 738, 0, 0), (.iconst 0, 373, 0, 0, 0), (.ireturn, 374, 1, 0, 0), (.aload_n 1, 375, 0, 0, 0), (.aload_n 0, 376, 0, 0, 0), (.iload_n 3, 377, 0, 0, 0), (.iconst 1, 378, 0, 0, 0), (.iadd, 379, 0, 0, 0), (.iaload, 380, 0, 0, 0), (.aload_n 0, 381, 0, 0, 0), (.iload_n 3, 382, 0, 0, 0), (.iconst 2, 383, 0, 0, 0), (.iadd, 384, 0, 0, 0), (.iaload, 385, 0, 0, 0), (.invokevirtual 37, 386, 110, 2, 0), (.aload_n 2, 389, 0, 0, 0), (.aload_n 0, 390, 0, 0, 0), (.iload_n 3, 391, 0, 0, 0), (.iconst 1, 392, 0, 0, 0), (.iadd, 393, 0, 0, 0), (.iaload, 394, 0, 0, 0), (.aload_n 0, 395, 0, 0, 0), (.iload_n 3, 396, 0, 0, 0), (.iconst 2, 397, 0, 0, 0), (.iadd, 398, 0, 0, 0), (.iaload, 399, 0, 0, 0), (.invokevirtual 41, 400, 157, 2, 0), (.if_icmp .eq 653, 403, 738, 0, 0), (.iconst 0, 406, 0, 0, 0), (.ireturn, 407, 1, 0, 0), (.aload_n 1, 408, 0, 0, 0), (.aload_n 0, 409, 0, 0, 0), (.iload_n 3, 410, 0, 0, 0), (.iconst 1, 411, 0, 0, 0), (.iadd, 412, 0, 0, 0), (.iaload, 413, 0, 0, 0), (.aload_n 0, 414, 0, 0, 0), (.iload_n 3, 415, 0, 0, 0), (.iconst 2, 416, 0, 0, 0), (.iadd, 417, 0, 0, 0), (.iaload, 418, 0, 0, 0), (.invokevirtual 42, 419, 111, 2, 0), (.aload_n 2, 422, 0, 0, 0), (.aload_n 0, 423, 0, 0, 0), (.iload_n 3, 424, 0, 0, 0), (.iconst 1, 425, 0, 0, 0), (.iadd, 426, 0, 0, 0), (.iaload, 427, 0, 0, 0), (.aload_n 0, 428, 0, 0, 0), (.iload_n 3, 429, 0, 0, 0), (.iconst 2, 430, 0, 0, 0), (.iadd, 431, 0, 0, 0), (.iaload, 432, 0, 0, 0), (.invokevirtual 45, 433, 158, 2, 0), (.if_icmp .eq 620, 436, 738, 0, 0), (.iconst 0, 439, 0, 0, 0), (.ireturn, 440, 1, 0, 0), (.aload_n 1, 441, 0, 0, 0), (.invokevirtual 46, 442, 112, 0, 0), (.aload_n 2, 445, 0, 0, 0), (.invokevirtual 49, 446, 159, 0, 0), (.if_icmp .eq 607, 449, 738, 0, 0), (.iconst 0, 452, 0, 0, 0), (.ireturn, 453, 1, 0, 0), (.aload_n 1, 454, 0, 0, 0), (.invokevirtual 50, 455, 113, 0, 0), (.aload_n 2, 458, 0, 0, 0), (.invokevirtual 53, 459, 160, 0, 0), (.if_icmp .eq 594, 462, 738, 0, 0), (.iconst 0, 465, 0, 0, 0), (.ireturn, 466, 1, 0, 0), (.aload_n 1, 467, 0, 0, 0), (.aload_n 0, 468, 0, 0, 0), (.iload_n 3, 469, 0, 0, 0), (.iconst 1, 470, 0, 0, 0), (.iadd, 471, 0, 0, 0), (.iaload, 472, 0, 0, 0), (.aload_n 0, 473, 0, 0, 0), (.iload_n 3, 474, 0, 0, 0), (.iconst 2, 475, 0, 0, 0), (.iadd, 476, 0, 0, 0), (.iaload, 477, 0, 0, 0), (.aload_n 0, 478, 0, 0, 0), (.iload_n 3, 479, 0, 0, 0), (.iconst 3, 480, 0, 0, 0), (.iadd, 481, 0, 0, 0), (.iaload, 482, 0, 0, 0), (.invokevirtual 54, 483, 114, 3, 0), (.aload_n 2, 486, 0, 0, 0), (.aload_n 0, 487, 0, 0, 0), (.iload_n 3, 488, 0, 0, 0), (.iconst 1, 489, 0, 0, 0), (.iadd, 490, 0, 0, 0), (.iaload, 491, 0, 0, 0), (.aload_n 0, 492, 0, 0, 0), (.iload_n 3, 493, 0, 0, 0), (.iconst 2, 494, 0, 0, 0), (.iadd, 495, 0, 0, 0), (.iaload, 496, 0, 0, 0), (.aload_n 0, 497, 0, 0, 0), (.iload_n 3, 498, 0, 0, 0), (.iconst 3, 499, 0, 0, 0), (.iadd, 500, 0, 0, 0), (.iaload, 501, 0, 0, 0), (.invokevirtual 58, 502, 161, 3, 0), (.if_icmp .eq 551, 505, 738, 0, 0), (.iconst 0, 508, 0, 0, 0), (.ireturn, 509, 1, 0, 0), (.aload_n 1, 510, 0, 0, 0), (.aload_n 0, 511, 0, 0, 0), (.iload_n 3, 512, 0, 0, 0), (.iconst 1, 513, 0, 0, 0), (.iadd, 514, 0, 0, 0), (.iaload, 515, 0, 0, 0), (.aload_n 0, 516, 0, 0, 0), (.iload_n 3, 517, 0, 0, 0), (.iconst 2, 518, 0, 0, 0), (.iadd, 519, 0, 0, 0), (.iaload, 520, 0, 0, 0), (.invokevirtual 59, 521, 115, 2, 0), (.aload_n 2, 524, 0, 0, 0), (.aload_n 0, 525, 0, 0, 0), (.iload_n 3, 526, 0, 0, 0), (.iconst 1, 527, 0, 0, 0), (.iadd, 528, 0, 0, 0), (.iaload, 529, 0, 0, 0), (.aload_n 0, 530, 0, 0, 0), (.iload_n 3, 531, 0, 0, 0), (.iconst 2, 532, 0, 0, 0), (.iadd, 533, 0, 0, 0), (.iaload, 534, 0, 0, 0), (.invokevirtual 62, 535, 166, 2, 0), (.if_icmp .eq 518, 538, 738, 0, 0), (.iconst 0, 541, 0, 0, 0), (.ireturn, 542, 1, 0, 0), (.aload_n 1, 543, 0, 0, 0), (.aload_n 0, 544, 0, 0, 0), (.iload_n 3, 545, 0, 0, 0), (.iconst 1, 546, 0, 0, 0), (.iadd, 547, 0, 0, 0), (.iaload, 548, 0, 0, 0), (.aload_n 0, 549, 0, 0, 0), (.iload_n 3, 550, 0, 0, 0), (.iconst 2, 551, 0, 0, 0), (.iadd, 552, 0, 0, 0), (.iaload, 553, 0, 0, 0), (.aload_n 0, 554, 0, 0, 0), (.iload_n 3, 555, 0, 0, 0), (.iconst 3, 556, 0, 0, 0), (.iadd, 557, 0, 0, 0), (.iaload, 558, 0, 0, 0), (.aload_n 0, 559, 0, 0, 0), (.iload_n 3, 560, 0, 0, 0), (.iconst 4, 561, 0, 0, 0), (.iadd, 562, 0, 0, 0), (.iaload, 563, 0, 0, 0), (.invokevirtual 63, 564, 116, 4, 0), (.aload_n 2, 567, 0, 0, 0), (.aload_n 0, 568, 0, 0, 0), (.iload_n 3, 569, 0, 0, 0), (.iconst 1, 570, 0, 0, 0), (.iadd, 571, 0, 0, 0), (.iaload, 572, 0, 0, 0), (.aload_n 0, 573, 0, 0, 0), (.iload_n 3, 574, 0, 0, 0), (.iconst 2, 575, 0, 0, 0), (.iadd, 576, 0, 0, 0), (.iaload, 577, 0, 0, 0), (.aload_n 0, 578, 0, 0, 0), (.iload_n 3, 579, 0, 0, 0), (.iconst 3, 580, 0, 0, 0), (.iadd, 581, 0, 0, 0), (.iaload, 582, 0, 0, 0), (.aload_n 0, 583, 0, 0, 0), (.iload_n 3, 584, 0, 0, 0), (.iconst 4, 585, 0, 0, 0), (.iadd, 586, 0, 0, 0), (.iaload, 587, 0, 0, 0), (.invokevirtual 67, 588, 167, 4, 0), (.if_icmp .eq 465, 591, 738, 0, 0), (.iconst 0, 594, 0, 0, 0), (.ireturn, 595, 1, 0, 0), (.aload_n 1, 596, 0, 0, 0), (.aload_n 0, 597, 0, 0, 0), (.iload_n 3, 598, 0, 0, 0), (.iconst 1, 599, 0, 0, 0), (.iadd, 600, 0, 0, 0), (.iaload, 601, 0, 0, 0), (.invokevirtual 68, 602, 117, 1, 0), (.aload_n 2, 605, 0, 0, 0), (.aload_n 0, 606, 0, 0, 0), (.iload_n 3, 607, 0, 0, 0), (.iconst 1, 608, 0, 0, 0), (.iadd, 609, 0, 0, 0), (.iaload, 610, 0, 0, 0), (.invokevirtual 72, 611, 168, 1, 0), (.if_icmp .eq 442, 614, 738, 0, 0), (.iconst 0, 617, 0, 0, 0), (.ireturn, 618, 1, 0, 0), (.aload_n 1, 619, 0, 0, 0), (.aload_n 0, 620, 0, 0, 0), (.iload_n 3, 621, 0, 0, 0), (.iconst 1, 622, 0, 0, 0), (.iadd, 623, 0, 0, 0), (.iaload, 624, 0, 0, 0), (.aload_n 0, 625, 0, 0, 0), (.iload_n 3, 626, 0, 0, 0), (.iconst 2, 627, 0, 0, 0), (.iadd, 628, 0, 0, 0), (.iaload, 629, 0, 0, 0), (.aload_n 0, 630, 0, 0, 0), (.iload_n 3, 631, 0, 0, 0), (.iconst 3, 632, 0, 0, 0), (.iadd, 633, 0, 0, 0), (.iaload, 634, 0, 0, 0), (.aload_n 0, 635, 0, 0, 0), (.iload_n 3, 636, 0, 0, 0), (.iconst 4, 637, 0, 0, 0), (.iadd, 638, 0, 0, 0), (.iaload, 639, 0, 0, 0), (.aload_n 0, 640, 0, 0, 0), (.iload_n 3, 641, 0, 0, 0), (.iconst 5, 642, 0, 0, 0), (.iadd, 643, 0, 0, 0), (.iaload, 644, 0, 0, 0), (.invokevirtual 73, 645, 118, 5, 0), (.aload_n 2, 648, 0, 0, 0), (.aload_n 0, 649, 0, 0, 0), (.iload_n 3, 650, 0, 0, 0), (.iconst 1, 651, 0, 0, 0), (.iadd, 652, 0, 0, 0), (.iaload, 653, 0, 0, 0), (.aload_n 0, 654, 0, 0, 0), (.iload_n 3, 655, 0, 0, 0), (.iconst 2, 656, 0, 0, 0), (.iadd, 657, 0, 0, 0), (.iaload, 658, 0, 0, 0), (.aload_n 0, 659, 0, 0, 0), (.iload_n 3, 660, 0, 0, 0), (.iconst 3, 661, 0, 0, 0), (.iadd, 662, 0, 0, 0), (.iaload, 663, 0, 0, 0), (.aload_n 0, 664, 0, 0, 0), (.iload_n 3, 665, 0, 0, 0), (.iconst 4, 666, 0, 0, 0), (.iadd, 667, 0, 0, 0), (.iaload, 668, 0, 0, 0), (.aload_n 0, 669, 0, 0, 0), (.iload_n 3, 670, 0, 0, 0), (.iconst 5, 671, 0, 0, 0), (.iadd, 672, 0, 0, 0), (.iaload, 673, 0, 0, 0), (.invokevirtual 77, 674, 181, 5, 0), (.if_icmp .eq 379, 677, 738, 0, 0), (.iconst 0, 680, 0, 0, 0), (.ireturn, 681, 1, 0, 0), (.aload_n 1, 682, 0, 0, 0), (.aload_n 0, 683, 0, 0, 0), (.iload_n 3, 684, 0, 0, 0), (.iconst 1, 685, 0, 0, 0), (.iadd, 686, 0, 0, 0), (.iaload, 687, 0, 0, 0), (.invokevirtual 78, 688, 119, 1, 0), (.aload_n 2, 691, 0, 0, 0), (.aload_n 0, 692, 0, 0, 0), (.iload_n 3, 693, 0, 0, 0), (.iconst 1, 694, 0, 0, 0), (.iadd, 695, 0, 0, 0), (.iaload, 696, 0, 0, 0), (.invokevirtual 81, 697, 183, 1, 0), (.if_icmp .eq 356, 700, 738, 0, 0), (.iconst 0, 703, 0, 0, 0), (.ireturn, 704, 1, 0, 0), (.aload_n 1, 705, 0, 0, 0), (.aload_n 0, 706, 0, 0, 0), (.iload_n 3, 707, 0, 0, 0), (.iconst 1, 708, 0, 0, 0), (.iadd, 709, 0, 0, 0), (.iaload, 710, 0, 0, 0), (.invokevirtual 82, 711, 120, 1, 0), (.aload_n 2, 714, 0, 0, 0), (.aload_n 0, 715, 0, 0, 0), (.iload_n 3, 716, 0, 0, 0), (.iconst 1, 717, 0, 0, 0), (.iadd, 718, 0, 0, 0), (.iaload, 719, 0, 0, 0), (.invokevirtual 85, 720, 184, 1, 0), (.if_icmp .eq 333, 723, 738, 0, 0), (.iconst 0, 726, 0, 0, 0), (.ireturn, 727, 1, 0, 0), (.aload_n 1, 728, 0, 0, 0), (.aload_n 0, 729, 0, 0, 0), (.iload_n 3, 730, 0, 0, 0), (.iconst 1, 731, 0, 0, 0), (.iadd, 732, 0, 0, 0), (.iaload, 733, 0, 0, 0), (.invokevirtual 86, 734, 121, 1, 0), (.aload_n 2, 737, 0, 0, 0), (.aload_n 0, 738, 0, 0, 0), (.iload_n 3, 739, 0, 0, 0), (.iconst 1, 740, 0, 0, 0), (.iadd, 741, 0, 0, 0), (.iaload, 742, 0, 0, 0), (.invokevirtual 89, 743, 186, 1, 0), (.if_icmp .eq 310, 746, 738, 0, 0), (.iconst 0, 749, 0, 0, 0), (.ireturn, 750, 1, 0, 0), (.aload_n 1, 751, 0, 0, 0), (.aload_n 0, 752, 0, 0, 0), (.iload_n 3, 753, 0, 0, 0), (.iconst 1, 754, 0, 0, 0), (.iadd, 755, 0, 0, 0), (.iaload, 756, 0, 0, 0), (.aload_n 0, 757, 0, 0, 0), (.iload_n 3, 758, 0, 0, 0), (.iconst 2, 759, 0, 0, 0), (.iadd, 760, 0, 0, 0), (.iaload, 761, 0, 0, 0), (.aload_n 0, 762, 0, 0, 0), (.iload_n 3, 763, 0, 0, 0), (.iconst 3, 764, 0, 0, 0), (.iadd, 765, 0, 0, 0), (.iaload, 766, 0, 0, 0), (.invokevirtual 90, 767, 122, 3, 0), (.aload_n 2, 770, 0, 0, 0), (.aload_n 0, 771, 0, 0, 0), (.iload_n 3, 772, 0, 0, 0), (.iconst 1, 773, 0, 0, 0), (.iadd, 774, 0, 0, 0), (.iaload, 775, 0, 0, 0), (.aload_n 0, 776, 0, 0, 0), (.iload_n 3, 777, 0, 0, 0), (.iconst 2, 778, 0, 0, 0), (.iadd, 779, 0, 0, 0), (.iaload, 780, 0, 0, 0), (.aload_n 0, 781, 0, 0, 0), (.iload_n 3, 782, 0, 0, 0), (.iconst 3, 783, 0, 0, 0), (.iadd, 784, 0, 0, 0), (.iaload, 785, 0, 0, 0), (.invokevirtual 94, 786, 187, 3, 0), (.if_icmp .eq 267, 789, 738, 0, 0), (.iconst 0, 792, 0, 0, 0), (.ireturn, 793, 1, 0, 0), (.aload_n 1, 794, 0, 0, 0), (.aload_n 0, 795, 0, 0, 0), (.iload_n 3, 796, 0, 0, 0), (.iconst 1, 797, 0, 0, 0), (.iadd, 798, 0, 0, 0), (.iaload, 799, 0, 0, 0), (.aload_n 0, 800, 0, 0, 0), (.iload_n 3, 801, 0, 0, 0), (.iconst 2, 802, 0, 0, 0), (.iadd, 803, 0, 0, 0), (.iaload, 804, 0, 0, 0), (.invokevirtual 95, 805, 123, 2, 0), (.aload_n 2, 808, 0, 0, 0), (.aload_n 0, 809, 0, 0, 0), (.iload_n 3, 810, 0, 0, 0), (.iconst 1, 811, 0, 0, 0), (.iadd, 812, 0, 0, 0), (.iaload, 813, 0, 0, 0), (.aload_n 0, 814, 0, 0, 0), (.iload_n 3, 815, 0, 0, 0), (.iconst 2, 816, 0, 0, 0), (.iadd, 817, 0, 0, 0), (.iaload, 818, 0, 0, 0), (.invokevirtual 98, 819, 189, 2, 0), (.if_icmp .eq 234, 822, 738, 0, 0), (.iconst 0, 825, 0, 0, 0), (.ireturn, 826, 1, 0, 0), (.aload_n 1, 827, 0, 0, 0), (.aload_n 0, 828, 0, 0, 0), (.iload_n 3, 829, 0, 0, 0), (.iconst 1, 830, 0, 0, 0), (.iadd, 831, 0, 0, 0), (.iaload, 832, 0, 0, 0), (.aload_n 0, 833, 0, 0, 0), (.iload_n 3, 834, 0, 0, 0), (.iconst 2, 835, 0, 0, 0), (.iadd, 836, 0, 0, 0), (.iaload, 837, 0, 0, 0), (.aload_n 0, 838, 0, 0, 0), (.iload_n 3, 839, 0, 0, 0), (.iconst 3, 840, 0, 0, 0), (.iadd, 841, 0, 0, 0), (.iaload, 842, 0, 0, 0), (.invokevirtual 99, 843, 124, 3, 0), (.aload_n 2, 846, 0, 0, 0), (.aload_n 0, 847, 0, 0, 0), (.iload_n 3, 848, 0, 0, 0), (.iconst 1, 849, 0, 0, 0), (.iadd, 850, 0, 0, 0), (.iaload, 851, 0, 0, 0), (.aload_n 0, 852, 0, 0, 0), (.iload_n 3, 853, 0, 0, 0), (.iconst 2, 854, 0, 0, 0), (.iadd, 855, 0, 0, 0), (.iaload, 856, 0, 0, 0), (.aload_n 0, 857, 0, 0, 0), (.iload_n 3, 858, 0, 0, 0), (.iconst 3, 859, 0, 0, 0), (.iadd, 860, 0, 0, 0), (.iaload, 861, 0, 0, 0), (.invokevirtual 102, 862, 190, 3, 0), (.if_icmp .eq 191, 865, 738, 0, 0), (.iconst 0, 868, 0, 0, 0), (.ireturn, 869, 1, 0, 0), (.aload_n 1, 870, 0, 0, 0), (.aload_n 0, 871, 0, 0, 0), (.iload_n 3, 872, 0, 0, 0), (.iconst 1, 873, 0, 0, 0), (.iadd, 874, 0, 0, 0), (.iaload, 875, 0, 0, 0), (.aload_n 0, 876, 0, 0, 0), (.iload_n 3, 877, 0, 0, 0), (.iconst 2, 878, 0, 0, 0), (.iadd, 879, 0, 0, 0), (.iaload, 880, 0, 0, 0), (.invokevirtual 103, 881, 125, 2, 0), (.aload_n 2, 884, 0, 0, 0), (.aload_n 0, 885, 0, 0, 0), (.iload_n 3, 886, 0, 0, 0), (.iconst 1, 887, 0, 0, 0), (.iadd, 888, 0, 0, 0), (.iaload, 889, 0, 0, 0), (.aload_n 0, 890, 0, 0, 0), (.iload_n 3, 891, 0, 0, 0), (.iconst 2, 892, 0, 0, 0), (.iadd, 893, 0, 0, 0), (.iaload, 894, 0, 0, 0), (.invokevirtual 106, 895, 191, 2, 0), (.if_icmp .eq 158, 898, 738, 0, 0), (.iconst 0, 901, 0, 0, 0), (.ireturn, 902, 1, 0, 0), (.aload_n 1, 903, 0, 0, 0), (.invokevirtual 107, 904, 126, 0, 0), (.aload_n 2, 907, 0, 0, 0), (.invokevirtual 110, 908, 195, 0, 0), (.if_icmp .eq 145, 911, 738, 0, 0), (.iconst 0, 914, 0, 0, 0), (.ireturn, 915, 1, 0, 0), (.aload_n 1, 916, 0, 0, 0), (.aload_n 0, 917, 0, 0, 0), (.iload_n 3, 918, 0, 0, 0), (.iconst 1, 919, 0, 0, 0), (.iadd, 920, 0, 0, 0), (.iaload, 921, 0, 0, 0), (.invokevirtual 111, 922, 127, 1, 0), (.aload_n 2, 925, 0, 0, 0), (.aload_n 0, 926, 0, 0, 0), (.iload_n 3, 927, 0, 0, 0), (.iconst 1, 928, 0, 0, 0), (.iadd, 929, 0, 0, 0), (.iaload, 930, 0, 0, 0), (.invokevirtual 114, 931, 196, 1, 0), (.if_icmp .eq 122, 934, 738, 0, 0), (.iconst 0, 937, 0, 0, 0), (.ireturn, 938, 1, 0, 0), (.aload_n 1, 939, 0, 0, 0), (.aload_n 0, 940, 0, 0, 0), (.iload_n 3, 941, 0, 0, 0), (.iconst 1, 942, 0, 0, 0), (.iadd, 943, 0, 0, 0), (.iaload, 944, 0, 0, 0), (.aload_n 0, 945, 0, 0, 0), (.iload_n 3, 946, 0, 0, 0), (.iconst 2, 947, 0, 0, 0), (.iadd, 948, 0, 0, 0), (.iaload, 949, 0, 0, 0), (.aload_n 0, 950, 0, 0, 0), (.iload_n 3, 951, 0, 0, 0), (.iconst 3, 952, 0, 0, 0), (.iadd, 953, 0, 0, 0), (.iaload, 954, 0, 0, 0), (.invokevirtual 115, 955, 128, 3, 0), (.aload_n 2, 958, 0, 0, 0), (.aload_n 0, 959, 0, 0, 0), (.iload_n 3, 960, 0, 0, 0), (.iconst 1, 961, 0, 0, 0), (.iadd, 962, 0, 0, 0), (.iaload, 963, 0, 0, 0), (.aload_n 0, 964, 0, 0, 0), (.iload_n 3, 965, 0, 0, 0), (.iconst 2, 966, 0, 0, 0), (.iadd, 967, 0, 0, 0), (.iaload, 968, 0, 0, 0), (.aload_n 0, 969, 0, 0, 0), (.iload_n 3, 970, 0, 0, 0), (.iconst 3, 971, 0, 0, 0), (.iadd, 972, 0, 0, 0), (.iaload, 973, 0, 0, 0), (.invokevirtual 118, 974, 197, 3, 0), (.if_icmp .eq 79, 977, 738, 0, 0), (.iconst 0, 980, 0, 0, 0), (.ireturn, 981, 1, 0, 0), (.aload_n 1, 982, 0, 0, 0), (.aload_n 0, 983, 0, 0, 0), (.iload_n 3, 984, 0, 0, 0), (.iconst 1, 985, 0, 0, 0), (.iadd, 986, 0, 0, 0), (.iaload, 987, 0, 0, 0), (.invokevirtual 119, 988, 129, 1, 0), (.aload_n 2, 991, 0, 0, 0), (.aload_n 0, 992, 0, 0, 0), (.iload_n 3, 993, 0, 0, 0), (.iconst 1, 994, 0, 0, 0), (.iadd, 995, 0, 0, 0), (.iaload, 996, 0, 0, 0), (.invokevirtual 123, 997, 200, 1, 0), (.if_icmp .eq 56, 1000, 738, 0, 0), (.iconst 0, 1003, 0, 0, 0), (.ireturn, 1004, 1, 0, 0), (.aload_n 1, 1005, 0, 0, 0), (.aload_n 0, 1006, 0, 0, 0), (.iload_n 3, 1007, 0, 0, 0), (.iconst 1, 1008, 0, 0, 0), (.iadd, 1009, 0, 0, 0), (.iaload, 1010, 0, 0, 0), (.invokevirtual 124, 1011, 130, 1, 0), (.aload_n 2, 1014, 0, 0, 0), (.aload_n 0, 1015, 0, 0, 0), (.iload_n 3, 1016, 0, 0, 0), (.iconst 1, 1017, 0, 0, 0), (.iadd, 1018, 0, 0, 0), (.iaload, 1019, 0, 0, 0), (.invokevirtual 127, 1020, 201, 1, 0), (.if_icmp .eq 33, 1023, 738, 0, 0), (.iconst 0, 1026, 0, 0, 0), (.ireturn, 1027, 1, 0, 0), (.aload_n 1, 1028, 0, 0, 0), (.invokevirtual 128, 1029, 131, 0, 0), (.aload_n 2, 1032, 0, 0, 0), (.invokevirtual 132, 1033, 202, 0, 0), (.lcmp, 1036, 0, 0, 0), (.ifCond .eq 19, 1037, 738, 0, 0), (.iconst 0, 1040, 0, 0, 0), (.ireturn, 1041, 1, 0, 0), (.aload_n 1, 1042, 0, 0, 0), (.invokevirtual 133, 1043, 132, 0, 0), (.aload_n 2, 1046, 0, 0, 0), (.invokevirtual 136, 1047, 203, 0, 0), (.lcmp, 1050, 0, 0, 0), (.ifCond .eq 5, 1051, 738, 0, 0), (.iconst 0, 1054, 0, 0, 0), (.ireturn, 1055, 1, 0, 0), (.iinc 3 8, 1056, 0, 0, 0), (.goto (-1041), 1059, 10, 0, 0), (.iconst 1, 1062, 0, 0, 0), (.ireturn, 1063, 1, 0, 0)]
def am_cT : List (List am_E) := [am_c0, am_c1, am_c2, am_c3, am_c4, am_c5, am_c6, am_c7, am_c8, am_c9, am_c10, am_c11, am_c12, am_c13, am_c14, am_c15, am_c16, am_c17, am_c18, am_c19, am_c20, am_c21, am_c22, am_c23, am_c24, am_c25, am_c26, am_c27, am_c28, am_c29, am_c30, am_c31, am_c32, am_c33, am_c34, am_c35, am_c36, am_c37, am_c38, am_c39, am_c40, am_c41, am_c42, am_c43, am_c44, am_c45, am_c46, am_c47, am_c48, am_c49, am_c50, am_c51, am_c52, am_c53, am_c54, am_c55, am_c56, am_c57, am_c58, am_c59, am_c60, am_c61, am_c62, am_c63, am_c64, am_c65, am_c66, am_c67, am_c68, am_c69, am_c70, am_c71, am_c72, am_c73, am_c74, am_c75, am_c76, am_c77, am_c78, am_c79, am_c80, am_c81, am_c82, am_c83, am_c84, am_c85, am_c86, am_c87, am_c88, am_c89, am_c90, am_c91, am_c92, am_c93, am_c94, am_c95, am_c96, am_c97, am_c98, am_c99, am_c100, am_c101, am_c102, am_c103, am_c104, am_c105, am_c106, am_c107, am_c108, am_c109, am_c110, am_c111, am_c112, am_c113, am_c114, am_c115, am_c116, am_c117, am_c118, am_c119, am_c120, am_c121, am_c122, am_c123, am_c124, am_c125, am_c126, am_c127, am_c128, am_c129, am_c130, am_c131, am_c132, am_c133, am_c134, am_c135, am_c136, am_c137, am_c138, am_c139, am_c140, am_c141, am_c142, am_c143, am_c144, am_c145, am_c146, am_c147, am_c148, am_c149, am_c150, am_c151, am_c152, am_c153, am_c154, am_c155, am_c156, am_c157, am_c158, am_c159, am_c160, am_c161, am_c162, am_c163, am_c164, am_c165, am_c166, am_c167, am_c168, am_c169, am_c170, am_c171, am_c172, am_c173, am_c174, am_c175, am_c176, am_c177, am_c178, am_c179, am_c180, am_c181, am_c182, am_c183, am_c184, am_c185, am_c186, am_c187, am_c188, am_c189, am_c190, am_c191, am_c192, am_c193, am_c194, am_c195, am_c196, am_c197, am_c198, am_c199, am_c200, am_c201, am_c202, am_c203, am_c204]
def am_lcT : List Int64 := [(-1), (6), (32), (96), (100), (1679616)]
def am_swT : List (Nat × List Nat) := [(25, [10, 13, 16, 19, 22]), (16, [2, 4, 6, 8, 10, 12, 14]), (20, [2, 5, 8, 11, 14, 17]), (738, [22, 29, 36, 113, 140, 195, 222, 249, 256, 263, 300, 327, 374, 391, 448, 465, 482, 499, 536, 563, 600, 627, 634, 651, 688, 705, 722, 730])]
def am_stT : List String := ["when", "first", "second", "third", "grass", "hard", "wear", "bounce", "rain", "and"]
def am_sbT : List (List Int32) := [[119, 104, 101, 110], [102, 105, 114, 115, 116], [115, 101, 99, 111, 110, 100], [116, 104, 105, 114, 100], [103, 114, 97, 115, 115], [104, 97, 114, 100], [119, 101, 97, 114], [98, 111, 117, 110, 99, 101], [114, 97, 105, 110], [97, 110, 100]]
def am_ftT : List (List Nat) := [[1, 1], [2, 2, 2, 2, 1, 1], [2, 2, 2, 0], [2, 2, 2, 2, 2, 0, 0, 0], [2, 2, 2, 2, 0], [2, 2, 2, 2, 0, 0, 0, 0, 0, 0, 0, 0, 0], [2, 2, 2, 0, 0, 0, 2, 2, 2, 1, 0], [2, 0], [0, 0, 0, 0, 0, 0, 0, 0], [2, 2], [2, 2, 2, 2, 2, 2, 2, 2, 2, 2, 2, 2, 0, 0, 0], [0, 0, 1, 1, 0, 0, 2, 2, 2, 2, 2, 2, 2, 2, 0, 2, 2, 2, 2, 2, 0, 0, 0, 0, 2, 2, 2, 2, 2, 2, 0, 2, 2, 2, 2, 0, 0, 0, 0, 0, 0, 0, 0, 0, 0, 0, 1, 0, 0, 2, 2, 2, 2, 2, 2, 2, 2, 2]]
abbrev am_MT : Type := MethodName × ByteArray × Nat × Option FieldType × Nat
def am_mT : List am_MT := [(yX0_init, cX0_init, 1, none, 0), (yX0_become, cX0_become, 7, none, 0), (yX0_upperNumber, cX0_upperNumber, 1, (some .long), 0), (yX0_lowerNumber, cX0_lowerNumber, 1, (some .long), 0), (yX0_commonDivisor, cX0_commonDivisor, 11, (some .long), 0), (yX1_init, cX1_init, 1, none, 1), (yX1_isFull, cX1_isFull, 1, (some .boolean), 1), (yX1_add, cX1_add, 4, none, 1), (yX1_partInto, cX1_partInto, 5, none, 1), (yX1_fairInto, cX1_fairInto, 10, (some .boolean), 1), (yX1_partsOver, cX1_partsOver, 9, (some .long), 1), (yX2_init, cX2_init, 1, none, 2), (yX2_isFull, cX2_isFull, 1, (some .boolean), 2), (yX2_add, cX2_add, 4, none, 2), (yX2_readInto, cX2_readInto, 14, (some .boolean), 2), (yX2_nearest, cX2_nearest, 6, (some .int), 2), (yX2_manyOf, cX2_manyOf, 6, (some .long), 2), (yX2_sumOf, cX2_sumOf, 6, (some .long), 2), (yX3_init, cX3_init, 2, none, 3), (yX3_beginWith, cX3_beginWith, 6, none, 3), (yX3_bestBounce, cX3_bestBounce, 3, (some .int), 3), (yX3_worksOn, cX3_worksOn, 2, (some .int), 3), (yX3_tryFrom, cX3_tryFrom, 8, none, 3), (yX3_weigh, cX3_weigh, 4, none, 3), (yX4_init, cX4_init, 1, none, 4), (yX4_clear, cX4_clear, 1, none, 4), (yX4_ruleCount, cX4_ruleCount, 1, (some .int), 4), (yX4_isFull, cX4_isFull, 1, (some .boolean), 4), (yX4_isLatestRuleFull, cX4_isLatestRuleFull, 1, (some .boolean), 4), (yX4_addRule, cX4_addRule, 1, none, 4), (yX4_addTest, cX4_addTest, 6, none, 4), (yX4_ruleFor, cX4_ruleFor, 4, (some .int), 4), (yX4_allHold, cX4_allHold, 7, (some .boolean), 4), (yX4_holds, cX4_holds, 3, (some .boolean), 4), (yX5_init, cX5_init, 2, none, 5), (yX5_faultKind, cX5_faultKind, 1, (some .int), 5), (yX5_faultPlace, cX5_faultPlace, 1, (some .int), 5), (yX5_exchangeBook, cX5_exchangeBook, 3, (some (.object "PitchSquare$RuleBook")), 5), (yX5_readAll, cX5_readAll, 3, (some .boolean), 5), (yX5_blame, cX5_blame, 3, none, 5), (yX5_blameToken, cX5_blameToken, 2, none, 5), (yX5_nextToken, cX5_nextToken, 2, (some .boolean), 5), (yX5_takeToken, cX5_takeToken, 1, none, 5), (yX5_takeName, cX5_takeName, 1, none, 5), (yX5_takeWhen, cX5_takeWhen, 1, none, 5), (yX5_takeWhat, cX5_takeWhat, 2, none, 5), (yX5_takeCompares, cX5_takeCompares, 1, none, 5), (yX5_takeNumber, cX5_takeNumber, 1, none, 5), (yX5_takeEnd, cX5_takeEnd, 1, none, 5), (yX5_keepName, cX5_keepName, 2, none, 5), (yX5_isNameKnown, cX5_isNameKnown, 2, (some .boolean), 5), (yX5_isSameText, cX5_isSameText, 3, (some .boolean), 5), (yX5_tokenLength, cX5_tokenLength, 1, (some .int), 5), (yX5_tokenIs, cX5_tokenIs, 3, (some .boolean), 5), (yX5_tokenWhat, cX5_tokenWhat, 2, (some .int), 5), (yX5_tokenNumber, cX5_tokenNumber, 3, (some .int), 5), (yX5_byteHere, cX5_byteHere, 1, (some .int), 5), (yX5_wordFor, cX5_wordFor, 1, (some (.object "java/lang/String")), 5), (yX5_isBlank, cX5_isBlank, 1, (some .boolean), 5), (yX5_isLetter, cX5_isLetter, 1, (some .boolean), 5), (yX5_isDigit, cX5_isDigit, 1, (some .boolean), 5), (yX5_isSign, cX5_isSign, 1, (some .boolean), 5), (yX6_init, cX6_init, 3, none, 6), (yX6_hasMatch, cX6_hasMatch, 2, (some .boolean), 6), (yX6_isFull, cX6_isFull, 1, (some .boolean), 6), (yX6_isTaken, cX6_isTaken, 3, (some .boolean), 6), (yX6_addMatch, cX6_addMatch, 3, (some .int), 6), (yX6_setWorth, cX6_setWorth, 4, none, 6), (yX6_setRests, cX6_setRests, 3, none, 6), (yX6_bestWorth, cX6_bestWorth, 2, (some .int), 6), (yX6_bestStrip, cX6_bestStrip, 4, (some .int), 6), (yX6_forgetBest, cX6_forgetBest, 1, none, 6), (yX6_findBest, cX6_findBest, 5, none, 6), (yX6_bestWithStrip, cX6_bestWithStrip, 8, (some .long), 6), (yX6_addUpGains, cX6_addUpGains, 5, none, 6), (yX6_valueOn, cX6_valueOn, 5, (some .long), 6), (yX6_fitsOneStrip, cX6_fitsOneStrip, 5, (some .boolean), 6), (yX6_canShare, cX6_canShare, 5, (some .boolean), 6), (yX7_init, cX7_init, 1, none, 7), (yX7_hasRoomForTwenty, cX7_hasRoomForTwenty, 1, (some .boolean), 7), (yX7_append, cX7_append, 3, none, 7), (yX7_size, cX7_size, 1, (some .int), 7), (yX7_clear, cX7_clear, 1, none, 7), (yX7_byteAt, cX7_byteAt, 2, (some .int), 7), (yX8_init, cX8_init, 1, none, 8), (yX8_setLayers, cX8_setLayers, 4, none, 8), (yX8_setSurface, cX8_setSurface, 4, none, 8), (yX8_copyFrom, cX8_copyFrom, 2, none, 8), (yX8_orderWorks, cX8_orderWorks, 2, none, 8), (yX8_ballsToday, cX8_ballsToday, 1, (some .int), 8), (yX8_addBalls, cX8_addBalls, 2, none, 8), (yX8_endDay, cX8_endDay, 3, none, 8), (yX8_valueOf, cX8_valueOf, 2, (some .int), 8), (yX8_bounce, cX8_bounce, 2, (some .int), 8), (yX8_passDay, cX8_passDay, 6, none, 8), (yX8_soak, cX8_soak, 3, none, 8), (yX8_seep, cX8_seep, 2, none, 8), (yX8_dry, cX8_dry, 2, none, 8), (yX8_harden, cX8_harden, 2, none, 8), (yX8_grow, cX8_grow, 1, none, 8), (yX9_init, cX9_init, 1, none, 9), (yX9_keep, cX9_keep, 4, none, 9), (yX9_rainOn, cX9_rainOn, 2, (some .int), 9), (yX9_sunOn, cX9_sunOn, 2, (some .int), 9), (yX10_init, cX10_init, 2, none, 10), (yX10_status, cX10_status, 1, (some .int), 10), (yX10_strip, cX10_strip, 1, (some .int), 10), (yX10_set, cX10_set, 10, (some .boolean), 10), (yX10_told, cX10_told, 3, (some .int), 10), (yX10_weather, cX10_weather, 6, (some .boolean), 10), (yX10_work, cX10_work, 3, (some .boolean), 10), (yX10_play, cX10_play, 3, (some .boolean), 10), (yX10_step, cX10_step, 2, (some .int), 10), (yX10_day, cX10_day, 1, (some .int), 10), (yX10_measure, cX10_measure, 4, (some .boolean), 10), (yX10_reads, cX10_reads, 3, (some .boolean), 10), (yX10_plan, cX10_plan, 6, (some .int), 10), (yX10_planned, cX10_planned, 3, (some .int), 10), (yX10_feed, cX10_feed, 6, (some .int), 10), (yX10_rules, cX10_rules, 3, (some .int), 10), (yX10_fault, cX10_fault, 2, (some .int), 10), (yX10_rate, cX10_rate, 3, (some .int), 10), (yX10_when, cX10_when, 5, (some .int), 10), (yX10_match, cX10_match, 3, (some .int), 10), (yX10_worth, cX10_worth, 4, (some .boolean), 10), (yX10_rests, cX10_rests, 3, (some .boolean), 10), (yX10_give, cX10_give, 2, (some .int), 10), (yX10_given, cX10_given, 3, (some .int), 10), (yX10_mark, cX10_mark, 4, (some .boolean), 10), (yX10_part, cX10_part, 2, (some .boolean), 10), (yX10_fair, cX10_fair, 2, (some .boolean), 10), (yX10_upper, cX10_upper, 1, (some .long), 10), (yX10_lower, cX10_lower, 1, (some .long), 10), (yX10_answer, cX10_answer, 2, (some .int), 10), (yX10_refuse, cX10_refuse, 2, (some .int), 10), (yX10_done, cX10_done, 1, (some .boolean), 10), (yX10_deny, cX10_deny, 2, (some .boolean), 10), (yX10_hasStrip, cX10_hasStrip, 2, (some .boolean), 10), (yX10_isDay, cX10_isDay, 1, (some .boolean), 10), (yX10_within, cX10_within, 3, (some .boolean), 10), (yX10_cut, cX10_cut, 2, (some .int), 10), (yX11_init, cX11_init, 1, none, 11), (yX11_status, cX11_status, 1, (some .int), 11), (yX11_refuse, cX11_refuse, 2, (some .int), 11), (yX11_no, cX11_no, 2, (some .boolean), 11), (yX11_isStrip, cX11_isStrip, 2, (some .boolean), 11), (yX11_isDay, cX11_isDay, 1, (some .boolean), 11), (yX11_isIn, cX11_isIn, 2, (some .boolean), 11), (yX11_strip, cX11_strip, 2, (some .int), 11), (yX11_set, cX11_set, 8, (some .boolean), 11), (yX11_begin, cX11_begin, 3, none, 11), (yX11_bounce, cX11_bounce, 2, (some .int), 11), (yX11_told, cX11_told, 3, (some .int), 11), (yX11_cut, cX11_cut, 2, (some .int), 11), (yX11_grows, cX11_grows, 3, none, 11), (yX11_steps, cX11_steps, 9, none, 11), (yX11_weather, cX11_weather, 5, (some .boolean), 11), (yX11_work, cX11_work, 3, (some .boolean), 11), (yX11_play, cX11_play, 3, (some .boolean), 11), (yX11_step, cX11_step, 3, (some .int), 11), (yX11_day, cX11_day, 1, (some .int), 11), (yX11_measure, cX11_measure, 4, (some .boolean), 11), (yX11_many, cX11_many, 5, (some .int), 11), (yX11_sumOf, cX11_sumOf, 5, (some .int), 11), (yX11_common, cX11_common, 10, (some .long), 11), (yX11_tells, cX11_tells, 7, (some .boolean), 11), (yX11_reads, cX11_reads, 9, (some .boolean), 11), (yX11_plan, cX11_plan, 12, (some .int), 11), (yX11_planned, cX11_planned, 2, (some .int), 11), (yX11_look, cX11_look, 2, (some .int), 11), (yX11_isLetter, cX11_isLetter, 1, (some .boolean), 11), (yX11_isDigit, cX11_isDigit, 1, (some .boolean), 11), (yX11_next, cX11_next, 2, none, 11), (yX11_spelled, cX11_spelled, 8, (some .long), 11), (yX11_isWord, cX11_isWord, 3, (some .boolean), 11), (yX11_isSign, cX11_isSign, 2, (some .boolean), 11), (yX11_fail, cX11_fail, 3, none, 11), (yX11_wrong, cX11_wrong, 1, none, 11), (yX11_whatOf, cX11_whatOf, 1, (some .int), 11), (yX11_readTest, cX11_readTest, 3, none, 11), (yX11_readRule, cX11_readRule, 2, none, 11), (yX11_feed, cX11_feed, 6, (some .int), 11), (yX11_lay, cX11_lay, 3, none, 11), (yX11_rules, cX11_rules, 4, (some .int), 11), (yX11_fault, cX11_fault, 2, (some .int), 11), (yX11_rated, cX11_rated, 6, (some .int), 11), (yX11_rate, cX11_rate, 3, (some .int), 11), (yX11_when, cX11_when, 5, (some .int), 11), (yX11_isMatch, cX11_isMatch, 2, (some .boolean), 11), (yX11_match, cX11_match, 4, (some .int), 11), (yX11_worth, cX11_worth, 4, (some .boolean), 11), (yX11_rests, cX11_rests, 3, (some .boolean), 11), (yX11_canBoth, cX11_canBoth, 6, (some .boolean), 11), (yX11_canLay, cX11_canLay, 4, (some .boolean), 11), (yX11_gives, cX11_gives, 6, (some .int), 11), (yX11_give, cX11_give, 2, (some .int), 11), (yX11_given, cX11_given, 2, (some .int), 11), (yX11_mark, cX11_mark, 4, (some .boolean), 11), (yX11_manyBy, cX11_manyBy, 4, (some .int), 11), (yX11_sumBy, cX11_sumBy, 4, (some .int), 11), (yX11_part, cX11_part, 6, (some .boolean), 11), (yX11_fair, cX11_fair, 11, (some .boolean), 11), (yX11_upper, cX11_upper, 1, (some .long), 11), (yX11_lower, cX11_lower, 1, (some .long), 11), (yL_law, cL_law, 4, (some .boolean), 12)]
end
section
/-! ===== a small machine of our own: the program's instructions over a memory of places =====
A place a < 1000000 is a cell of ours (the a-th that was made since the law began); 1000000 + i: a constant object
(0..9 the String constants, 40 the static array ORDERS, 50 the script). -/
abbrev am_M : Type := List (Nat × Nat) × List (List (Option Nat)) × (Nat → Nat → Int32) × (Nat → Nat → Int64)
abbrev am_Act : Type := (Nat × List Value × List Value × am_M) ⊕ (Nat × List Value × List Value) ⊕ Option Value
def am_nx (j : Nat) (ls st : List Value) (M : am_M) : Option am_Act := some (.inl (j, ls, st, M))
/-- a memory, changed at one place -/
def u2 {α : Type} (f : Nat → Nat → α) (a k : Nat) (v : α) : Nat → Nat → α := fun q i => if q = a then (if i = k then v else f q i) else f q i
/-- a memory, at a new place -/
def u0 {α : Type} (f : Nat → Nat → α) (a : Nat) (v : α) : Nat → Nat → α := fun q i => if q = a then v else f q i
def am_rd (mr : List (List (Option Nat))) (a k : Nat) : Option Nat := ((mr[a]?.getD [])[k]?).getD none
def am_wr (mr : List (List (Option Nat))) (a k : Nat) (r : Option Nat) : List (List (Option Nat)) := mr.set a ((mr[a]?.getD []).set k r)
def am_rv (r : Option Nat) : Value := match r with
  | none => .null
  | some a => .ref a
/-- may a value be laid at local i: the one ahead isn't of two words -/
def am_ok1 (ls : List Value) (i : Nat) : Bool := match i with
  | 0 => true
  | k + 1 => match ls[k]? with
    | some w => w.category == 1
    | none => false
def am_lda (i j : Nat) (ls st : List Value) (M : am_M) : Option am_Act := match ls[i]? with
  | some (.ref a) => am_nx (j + 1) ls (.ref a :: st) M
  | some .null => am_nx (j + 1) ls (.null :: st) M
  | _ => none
def am_ldi (i j : Nat) (ls st : List Value) (M : am_M) : Option am_Act := match ls[i]? with
  | some (.int x) => am_nx (j + 1) ls (.int x :: st) M
  | _ => none
def am_ldl (i j : Nat) (ls st : List Value) (M : am_M) : Option am_Act := match ls[i]? with
  | some (.long x) => am_nx (j + 1) ls (.long x :: st) M
  | _ => none
def am_sti (i j : Nat) (ls st : List Value) (M : am_M) : Option am_Act := match st with
  | .int x :: st => if i < ls.length ∧ am_ok1 ls i = true then am_nx (j + 1) (ls.set i (.int x)) st M else none
  | _ => none
def am_sta (i j : Nat) (ls st : List Value) (M : am_M) : Option am_Act := match st with
  | .ref x :: st => if i < ls.length ∧ am_ok1 ls i = true then am_nx (j + 1) (ls.set i (.ref x)) st M else none
  | _ => none
def am_stl (i j : Nat) (ls st : List Value) (M : am_M) : Option am_Act := match st with
  | .long x :: st => if i + 1 < ls.length ∧ am_ok1 ls i = true then am_nx (j + 1) ((ls.set i (.long x)).set (i + 1) (.retAddr 0)) st M else none
  | _ => none
def am_inc (i : Nat) (n : Int) (j : Nat) (ls st : List Value) (M : am_M) : Option am_Act := match ls[i]? with
  | some (.int x) => if am_ok1 ls i = true then am_nx (j + 1) (ls.set i (.int (x + Int32.ofInt n))) st M else none
  | _ => none
def am_kd (M : am_M) (a : Nat) : Nat := ((M.1[a]?).map Prod.fst).getD 1000
def am_getf (ci k t j : Nat) (ls st : List Value) (M : am_M) : Option am_Act := match st with
  | .ref a :: st => if am_kd M a = ci then
      (match t with
      | 0 => am_nx (j + 1) ls (.int (M.2.2.1 a k) :: st) M
      | 1 => am_nx (j + 1) ls (.long (M.2.2.2 a k) :: st) M
      | _ => am_nx (j + 1) ls (am_rv (am_rd M.2.1 a k) :: st) M) else none
  | _ => none
def am_putf (ci k t j : Nat) (ls st : List Value) (M : am_M) : Option am_Act := match t, st with
  | 0, .int x :: .ref a :: st => if am_kd M a = ci then am_nx (j + 1) ls st (M.1, M.2.1, u2 M.2.2.1 a k x, M.2.2.2) else none
  | 1, .long x :: .ref a :: st => if am_kd M a = ci then am_nx (j + 1) ls st (M.1, M.2.1, M.2.2.1, u2 M.2.2.2 a k x) else none
  | 2, .ref b :: .ref a :: st => if am_kd M a = ci ∧ b < 1000000 ∧ k < (M.2.1[a]?.getD []).length then am_nx (j + 1) ls st (M.1, am_wr M.2.1 a k (some b), M.2.2.1, M.2.2.2) else none
  | _, _ => none
/-- the length of an array of a kind -/
def am_ln (M : am_M) (a kd : Nat) : Option Nat := match M.1[a]? with
  | some (k, n) => if k = kd then some n else none
  | none => none
def am_ix (i : Int32) (n : Nat) : Bool := decide (0 ≤ i) && decide (i.toNatClampNeg < n)
def am_orders (k : Nat) : Int32 := ([279936, 46656, 7776, 1296, 216, 36, 6, 1] : List Int32).getD k 0
def am_iald (X : Nat × (Nat → Int32)) (j : Nat) (ls st : List Value) (M : am_M) : Option am_Act := match st with
  | .int i :: .ref a :: st =>
    if a = 1000050 then (if am_ix i X.1 = true ∧ X.1 ≤ 4096 then am_nx (j + 1) ls (.int (X.2 i.toNatClampNeg) :: st) M else none)
    else if a = 1000040 then (if am_ix i 8 = true then am_nx (j + 1) ls (.int (am_orders i.toNatClampNeg) :: st) M else none)
    else (match am_ln M a 100 with
      | some n => if am_ix i n = true then am_nx (j + 1) ls (.int (M.2.2.1 a i.toNatClampNeg) :: st) M else none
      | none => none)
  | _ => none
def am_bald (j : Nat) (ls st : List Value) (M : am_M) : Option am_Act := match st with
  | .int i :: .ref a :: st => match am_ln M a 101, am_ln M a 102 with
    | some n, _ => if am_ix i n = true then am_nx (j + 1) ls (.int (M.2.2.1 a i.toNatClampNeg) :: st) M else none
    | _, some n => if am_ix i n = true then am_nx (j + 1) ls (.int (M.2.2.1 a i.toNatClampNeg) :: st) M else none
    | _, _ => none
  | _ => none
def am_lald (j : Nat) (ls st : List Value) (M : am_M) : Option am_Act := match st with
  | .int i :: .ref a :: st => match am_ln M a 103 with
    | some n => if am_ix i n = true then am_nx (j + 1) ls (.long (M.2.2.2 a i.toNatClampNeg) :: st) M else none
    | none => none
  | _ => none
def am_aald (j : Nat) (ls st : List Value) (M : am_M) : Option am_Act := match st with
  | .int i :: .ref a :: st => match am_ln M a 104, am_ln M a 105 with
    | some n, _ => if am_ix i n = true then am_nx (j + 1) ls (am_rv (am_rd M.2.1 a i.toNatClampNeg) :: st) M else none
    | _, some n => if am_ix i n = true then am_nx (j + 1) ls (am_rv (am_rd M.2.1 a i.toNatClampNeg) :: st) M else none
    | _, _ => none
  | _ => none
def am_iast (j : Nat) (ls st : List Value) (M : am_M) : Option am_Act := match st with
  | .int x :: .int i :: .ref a :: st => match am_ln M a 100 with
    | some n => if am_ix i n = true then am_nx (j + 1) ls st (M.1, M.2.1, u2 M.2.2.1 a i.toNatClampNeg x, M.2.2.2) else none
    | none => none
  | _ => none
def am_bast (j : Nat) (ls st : List Value) (M : am_M) : Option am_Act := match st with
  | .int x :: .int i :: .ref a :: st => match am_ln M a 101, am_ln M a 102 with
    | some n, _ => if am_ix i n = true then am_nx (j + 1) ls st (M.1, M.2.1, u2 M.2.2.1 a i.toNatClampNeg (vp_nar .byte x), M.2.2.2) else none
    | _, some n => if am_ix i n = true then am_nx (j + 1) ls st (M.1, M.2.1, u2 M.2.2.1 a i.toNatClampNeg (vp_nar .boolean x), M.2.2.2) else none
    | _, _ => none
  | _ => none
def am_last (j : Nat) (ls st : List Value) (M : am_M) : Option am_Act := match st with
  | .long x :: .int i :: .ref a :: st => match am_ln M a 103 with
    | some n => if am_ix i n = true then am_nx (j + 1) ls st (M.1, M.2.1, M.2.2.1, u2 M.2.2.2 a i.toNatClampNeg x) else none
    | none => none
  | _ => none
def am_aast (j : Nat) (ls st : List Value) (M : am_M) : Option am_Act := match st with
  | .ref b :: .int i :: .ref a :: st => match am_ln M a 104 with
    | some n => if am_ix i n = true ∧ am_kd M b = 8 ∧ b < 1000000 ∧ i.toNatClampNeg < (M.2.1[a]?.getD []).length then am_nx (j + 1) ls st (M.1, am_wr M.2.1 a i.toNatClampNeg (some b), M.2.2.1, M.2.2.2) else none
    | none => none
  | _ => none
def am_alen (X : Nat × (Nat → Int32)) (j : Nat) (ls st : List Value) (M : am_M) : Option am_Act := match st with
  | .ref a :: st => if a = 1000050 ∧ X.1 ≤ 4096 then am_nx (j + 1) ls (.int (Int32.ofNat X.1) :: st) M else none
  | _ => none
def am_ii (f : Int32 → Int32 → Int32) (j : Nat) (ls st : List Value) (M : am_M) : Option am_Act := match st with
  | .int y :: .int x :: st => am_nx (j + 1) ls (.int (f x y) :: st) M
  | _ => none
def am_i1 (f : Int32 → Int32) (j : Nat) (ls st : List Value) (M : am_M) : Option am_Act := match st with
  | .int x :: st => am_nx (j + 1) ls (.int (f x) :: st) M
  | _ => none
def am_ll (f : Int64 → Int64 → Int64) (j : Nat) (ls st : List Value) (M : am_M) : Option am_Act := match st with
  | .long y :: .long x :: st => am_nx (j + 1) ls (.long (f x y) :: st) M
  | _ => none
def am_idiv (j : Nat) (ls st : List Value) (M : am_M) : Option am_Act := match st with
  | .int y :: .int x :: st => if y = 0 then none else am_nx (j + 1) ls (.int (x / y) :: st) M
  | _ => none
def am_ldiv (f : Int64 → Int64 → Int64) (j : Nat) (ls st : List Value) (M : am_M) : Option am_Act := match st with
  | .long y :: .long x :: st => if y = 0 then none else am_nx (j + 1) ls (.long (f x y) :: st) M
  | _ => none
def am_lneg (j : Nat) (ls st : List Value) (M : am_M) : Option am_Act := match st with
  | .long x :: st => am_nx (j + 1) ls (.long (-x) :: st) M
  | _ => none
def am_i2l (j : Nat) (ls st : List Value) (M : am_M) : Option am_Act := match st with
  | .int x :: st => am_nx (j + 1) ls (.long x.toInt64 :: st) M
  | _ => none
def am_l2i (j : Nat) (ls st : List Value) (M : am_M) : Option am_Act := match st with
  | .long x :: st => am_nx (j + 1) ls (.int x.toInt32 :: st) M
  | _ => none
def am_lcmp (j : Nat) (ls st : List Value) (M : am_M) : Option am_Act := match st with
  | .long y :: .long x :: st => am_nx (j + 1) ls (.int (lg_cmp x y) :: st) M
  | _ => none
def am_dup (j : Nat) (ls st : List Value) (M : am_M) : Option am_Act := match st with
  | v :: st => if v.category = 1 then am_nx (j + 1) ls (v :: v :: st) M else none
  | _ => none
def am_pop (j : Nat) (ls st : List Value) (M : am_M) : Option am_Act := match st with
  | v :: st => if v.category = 1 then am_nx (j + 1) ls st M else none
  | _ => none
def am_dup2 (j : Nat) (ls st : List Value) (M : am_M) : Option am_Act := match st with
  | v :: w :: st => if v.category = 1 ∧ w.category = 1 then am_nx (j + 1) ls (v :: w :: v :: w :: st) M else if v.category = 2 then am_nx (j + 1) ls (v :: v :: w :: st) M else none
  | _ => none
def am_cm (c : ClassFile.Cond) (x y : Int32) : Bool := match c with
  | .eq => decide (x = y)
  | .ne => decide (¬ x = y)
  | .lt => decide (x < y)
  | .ge => decide (y ≤ x)
  | .gt => decide (y < x)
  | .le => decide (x ≤ y)
def am_icmp (c : ClassFile.Cond) (r j : Nat) (ls st : List Value) (M : am_M) : Option am_Act := match st with
  | .int y :: .int x :: st => if am_cm c x y = true then am_nx r ls st M else am_nx (j + 1) ls st M
  | _ => none
def am_ifc (c : ClassFile.Cond) (r j : Nat) (ls st : List Value) (M : am_M) : Option am_Act := match st with
  | .int x :: st => if am_cm c x 0 = true then am_nx r ls st M else am_nx (j + 1) ls st M
  | _ => none
def am_sw (lo hi : Int) (r : Nat) (ls st : List Value) (M : am_M) : Option am_Act := match st with
  | .int x :: st => match am_swT[r]? with
    | some (d, ts) => if x.toInt < lo ∨ hi < x.toInt then am_nx d ls st M else (match ts[(x.toInt - lo).toNat]? with
      | some t => am_nx t ls st M
      | none => none)
    | none => none
  | _ => none
def am_new (ci j : Nat) (ls st : List Value) (M : am_M) : Option am_Act := match am_ftT[ci]? with
  | some ts => am_nx (j + 1) ls (.ref M.1.length :: st) (M.1 ++ [(ci, ts.length)], M.2.1 ++ [ts.map (fun _ => none)], u0 M.2.2.1 M.1.length 0, u0 M.2.2.2 M.1.length 0)
  | none => none
def am_ak (t : ArrayType) : Nat := match t with
  | .int => 100
  | .byte => 101
  | .boolean => 102
  | .long => 103
  | _ => 999
def am_newa (t : ArrayType) (j : Nat) (ls st : List Value) (M : am_M) : Option am_Act := match st with
  | .int n :: st => if 0 ≤ n ∧ n.toNatClampNeg ≤ 65536 ∧ am_ak t ≠ 999 then am_nx (j + 1) ls (.ref M.1.length :: st) (M.1 ++ [(am_ak t, n.toNatClampNeg)], M.2.1 ++ [[]], u0 M.2.2.1 M.1.length 0, u0 M.2.2.2 M.1.length 0) else none
  | _ => none
def am_anew (ci j : Nat) (ls st : List Value) (M : am_M) : Option am_Act := match st with
  | .int n :: st => if 0 ≤ n ∧ n.toNatClampNeg ≤ 65536 ∧ ci = 8 then am_nx (j + 1) ls (.ref M.1.length :: st) (M.1 ++ [(104, n.toNatClampNeg)], M.2.1 ++ [List.replicate n.toNatClampNeg none], u0 M.2.2.1 M.1.length 0, u0 M.2.2.2 M.1.length 0) else none
  | _ => none
def am_mna (j : Nat) (ls st : List Value) (M : am_M) : Option am_Act := match st with
  | .int k :: .int n :: st => if 0 ≤ n ∧ n.toNatClampNeg ≤ 4096 ∧ 0 ≤ k ∧ k.toNatClampNeg ≤ 4096 then am_nx (j + 1) ls (.ref M.1.length :: st) (M.1 ++ (105, n.toNatClampNeg) :: List.replicate n.toNatClampNeg (100, k.toNatClampNeg), M.2.1 ++ ((List.range n.toNatClampNeg).map (fun i => some (M.1.length + 1 + i))) :: List.replicate n.toNatClampNeg [],
      (fun q i => if M.1.length ≤ q then 0 else M.2.2.1 q i), (fun q i => if M.1.length ≤ q then 0 else M.2.2.2 q i)) else none
  | _ => none
/-- what is left below a call's arguments is small -/
def am_low (st : List Value) : Bool := decide ((st.map fun v => v.category).sum ≤ 8)
def am_chr (i k : Nat) : Int32 := (am_sbT.getD i []).getD k 0
def am_inv (y n b j : Nat) (ls st : List Value) (M : am_M) : Option am_Act := match y with
  | 1000 => match st with
    | .ref _ :: st => if am_low st = true then am_nx (j + 1) ls st M else none
    | _ => none
  | 1001 => match st with
    | .int y :: .int x :: st => if am_low st = true then am_nx (j + 1) ls (.int (if x < y then y else x) :: st) M else none
    | _ => none
  | 1002 => match st with
    | .int y :: .int x :: st => if am_low st = true then am_nx (j + 1) ls (.int (if y < x then y else x) :: st) M else none
    | _ => none
  | 1003 => match st with
    | .int x :: st => if am_low st = true then am_nx (j + 1) ls (.int (if 0 ≤ x then x else 0 - x) :: st) M else none
    | _ => none
  | 1004 => match st with
    | .long x :: st => if am_low st = true then am_nx (j + 1) ls (.long (if 0 < x then x else -x) :: st) M else none
    | _ => none
  | 1005 => match st with
    | .long y :: .long x :: st => if am_low st = true then am_nx (j + 1) ls (.long (if y < x then x else y) :: st) M else none
    | _ => none
  | 1006 => match st with
    | .ref a :: st => if 1000000 ≤ a ∧ a < 1000010 ∧ am_low st = true then am_nx (j + 1) ls (.int (Int32.ofNat (am_sbT.getD (a - 1000000) []).length) :: st) M else none
    | _ => none
  | 1007 => match st with
    | .int k :: .ref a :: st => if 1000000 ≤ a ∧ a < 1000010 ∧ am_low st = true ∧ am_ix k (am_sbT.getD (a - 1000000) []).length = true then am_nx (j + 1) ls (.int (am_chr (a - 1000000) k.toNatClampNeg) :: st) M else none
    | _ => none
  | y => if b = 1 ∨ b = 4 then
      (if n ≤ st.length ∧ am_low (st.drop n) = true then some (.inr (.inl (y, (st.take n).reverse, st.drop n))) else none)
    else
      (match st.drop n with
      | .ref a :: rest => if am_kd M a = ((am_mT[y]?).map (fun q => q.2.2.2.2)).getD 2000 ∧ am_low rest = true then some (.inr (.inl (y, .ref a :: (st.take n).reverse, rest))) else none
      | _ => none)
def am_ret (r : Nat) (i : Instr) (st : List Value) : Option am_Act := match i, st with
  | .ireturn, [.int v] => if r = 0 ∨ v = 0 ∨ v = 1 then some (.inr (.inr (some (.int v)))) else none
  | .lreturn, [.long v] => some (.inr (.inr (some (.long v))))
  | .areturn, [.ref a] => some (.inr (.inr (some (.ref a))))
  | .return_, [] => some (.inr (.inr none))
  | _, _ => none
def am_step (X : Nat × (Nat → Int32)) (e : am_E) (j : Nat) (ls st : List Value) (M : am_M) : Option am_Act := match e.1 with
  | .aload_n k => am_lda k.val j ls st M
  | .aload i => am_lda i j ls st M
  | .iload_n k => am_ldi k.val j ls st M
  | .iload i => am_ldi i j ls st M
  | .lload_n k => am_ldl k.val j ls st M
  | .lload i => am_ldl i j ls st M
  | .istore_n k => am_sti k.val j ls st M
  | .istore i => am_sti i j ls st M
  | .lstore_n k => am_stl k.val j ls st M
  | .lstore i => am_stl i j ls st M
  | .astore_n k => am_sta k.val j ls st M
  | .astore i => am_sta i j ls st M
  | .iinc i n => am_inc i n j ls st M
  | .iconst n => am_nx (j + 1) ls (.int (Int32.ofInt n) :: st) M
  | .bipush n => am_nx (j + 1) ls (.int (Int8.ofInt n).toInt32 :: st) M
  | .sipush n => am_nx (j + 1) ls (.int (Int16.ofInt n).toInt32 :: st) M
  | .lconst n => am_nx (j + 1) ls (.long (Int64.ofNat n.val) :: st) M
  | .ldc2_w _ => am_nx (j + 1) ls (.long (am_lcT.getD e.2.2.1 0) :: st) M
  | .ldc _ => am_nx (j + 1) ls (.ref (1000000 + e.2.2.1) :: st) M
  | .getstatic _ => am_nx (j + 1) ls (.ref 1000040 :: st) M
  | .getfield _ => am_getf e.2.2.1 e.2.2.2.1 e.2.2.2.2 j ls st M
  | .putfield _ => am_putf e.2.2.1 e.2.2.2.1 e.2.2.2.2 j ls st M
  | .iaload => am_iald X j ls st M
  | .baload => am_bald j ls st M
  | .laload => am_lald j ls st M
  | .aaload => am_aald j ls st M
  | .iastore => am_iast j ls st M
  | .bastore => am_bast j ls st M
  | .lastore => am_last j ls st M
  | .aastore => am_aast j ls st M
  | .arraylength => am_alen X j ls st M
  | .iadd => am_ii (fun x y => x + y) j ls st M
  | .isub => am_ii (fun x y => x - y) j ls st M
  | .imul => am_ii (fun x y => x * y) j ls st M
  | .iand => am_ii (fun x y => x &&& y) j ls st M
  | .ior => am_ii (fun x y => x ||| y) j ls st M
  | .ixor => am_ii (fun x y => x ^^^ y) j ls st M
  | .ishl => am_ii (fun x y => x <<< (y &&& 31)) j ls st M
  | .ishr => am_ii (fun x y => x >>> (y &&& 31)) j ls st M
  | .iushr => am_ii (fun x y => (x.toUInt32 >>> (y.toUInt32 &&& Int32.toUInt32 31)).toInt32) j ls st M
  | .idiv => am_idiv j ls st M
  | .ineg => am_i1 (fun x => -x) j ls st M
  | .i2b => am_i1 (fun x => x.toInt8.toInt32) j ls st M
  | .i2c => am_i1 (fun x => (x.toUInt32 % 65536).toInt32) j ls st M
  | .i2l => am_i2l j ls st M
  | .l2i => am_l2i j ls st M
  | .ladd => am_ll (fun x y => x + y) j ls st M
  | .lsub => am_ll (fun x y => x - y) j ls st M
  | .lmul => am_ll (fun x y => x * y) j ls st M
  | .ldiv => am_ldiv (fun x y => x / y) j ls st M
  | .lrem => am_ldiv (fun x y => x - x / y * y) j ls st M
  | .lneg => am_lneg j ls st M
  | .lcmp => am_lcmp j ls st M
  | .dup => am_dup j ls st M
  | .dup2 => am_dup2 j ls st M
  | .pop => am_pop j ls st M
  | .if_icmp c _ => am_icmp c e.2.2.1 j ls st M
  | .ifCond c _ => am_ifc c e.2.2.1 j ls st M
  | .goto _ => am_nx e.2.2.1 ls st M
  | .tableswitch _ lo hi _ => am_sw lo hi e.2.2.1 ls st M
  | .new _ => am_new e.2.2.1 j ls st M
  | .newarray t => am_newa t j ls st M
  | .anewarray _ => am_anew e.2.2.1 j ls st M
  | .multianewarray _ _ => am_mna j ls st M
  | .invokevirtual _ => am_inv e.2.2.1 e.2.2.2.1 e.2.2.2.2 j ls st M
  | .invokestatic _ => am_inv e.2.2.1 e.2.2.2.1 e.2.2.2.2 j ls st M
  | .invokespecial _ => am_inv e.2.2.1 e.2.2.2.1 e.2.2.2.2 j ls st M
  | .ireturn => am_ret e.2.2.1 .ireturn st
  | .lreturn => am_ret e.2.2.1 .lreturn st
  | .areturn => am_ret e.2.2.1 .areturn st
  | .return_ => am_ret e.2.2.1 .return_ st
  | _ => none
def am_cd (mid j : Nat) : Option am_E := (am_cT[mid]?.getD [])[j]?
def am_nL (mid : Nat) : Nat := ((am_mT[mid]?).map (fun q => q.2.2.1)).getD 0
/-- a method's locals at its entry -/
def am_ent (n : Nat) (vs : List Value) : List Value := (vs.flatMap fun v => if v.category = 2 then [v, .retAddr 0] else [v]) ++ List.replicate (n - (vs.flatMap fun v => if v.category = 2 then [v, .retAddr 0] else [v]).length) (.retAddr 0)
def am_ex (X : Nat × (Nat → Int32)) : Nat → Nat → Nat → Nat → List Value → List Value → am_M → Option (Option Value × am_M)
  | 0, _, _, _, _, _, _ => none
  | n + 1, d, mid, j, ls, st, M => match (am_cd mid j).bind (fun e => am_step X e j ls st M) with
    | none => none
    | some (.inl q) => am_ex X n d mid q.1 q.2.1 q.2.2.1 q.2.2.2
    | some (.inr (.inr v)) => some (v, M)
    | some (.inr (.inl q)) => match d with
      | 0 => none
      | d + 1 => if (am_ent (am_nL q.1) q.2.1).length = am_nL q.1 then (match am_ex X n d q.1 0 (am_ent (am_nL q.1) q.2.1) [] M with
        | none => none
        | some r => am_ex X n (d + 1) mid (j + 1) ls (r.1.toList ++ q.2.2) r.2) else none
/-- the machine, from here, comes to an end with Q -/
def am_wp (X : Nat × (Nat → Int32)) (d mid j : Nat) (ls st : List Value) (M : am_M) (Q : Option Value → am_M → Prop) : Prop := ∃ n v M', am_ex X n d mid j ls st M = some (v, M') ∧ Q v M'
end
section
/-! ===== the small machine's rules ===== -/
section AWP
variable {X : Nat × (Nat → Int32)} {d mid j : Nat} {ls st : List Value} {M : am_M} {Q : Option Value → am_M → Prop} {e : am_E}
theorem am_ex_mono : ∀ (n : Nat) {n' d d' mid j : Nat} {ls st : List Value} {M : am_M} {r : Option Value × am_M}, n ≤ n' → d ≤ d' → am_ex X n d mid j ls st M = some r → am_ex X n' d' mid j ls st M = some r := by
  intro n
  induction n with
  | zero => intro n' d d' mid j ls st M r _ _ h; simp [am_ex] at h
  | succ n ih =>
    intro n' d d' mid j ls st M r hn hd h
    obtain ⟨n', rfl⟩ : ∃ k, n' = k + 1 := ⟨n' - 1, by omega⟩
    have hn : n ≤ n' := by omega
    simp only [am_ex] at h ⊢
    generalize (am_cd mid j).bind (fun e => am_step X e j ls st M) = a at h ⊢
    match a, h with
    | some (.inl q), h => exact ih hn hd h
    | some (.inr (.inr v)), h => exact h
    | some (.inr (.inl q)), h =>
      match d, hd, h with
      | d + 1, hd, h =>
        obtain ⟨d', rfl⟩ : ∃ k, d' = k + 1 := ⟨d' - 1, by omega⟩
        simp only at h ⊢
        split at h
        · rename_i hl
          rw [if_pos hl]
          cases h1 : am_ex X n d q.1 0 (am_ent (am_nL q.1) q.2.1) [] M with
          | none => rw [h1] at h; cases h
          | some r1 =>
            rw [h1] at h
            rw [ih hn (show d ≤ d' by omega) h1]
            exact ih hn (show d + 1 ≤ d' + 1 by omega) h
        · cases h
theorem am_wp_next {j' : Nat} {ls' st' : List Value} {M' : am_M} (hc : am_cd mid j = some e) (hs : am_step X e j ls st M = some (.inl (j', ls', st', M'))) (k : am_wp X d mid j' ls' st' M' Q) : am_wp X d mid j ls st M Q := by
  obtain ⟨n, v, M1, h, hq⟩ := k
  refine ⟨n + 1, v, M1, ?_, hq⟩
  simp only [am_ex, hc, Option.bind_some, hs]
  exact h
theorem am_wp_ret {v : Option Value} (hc : am_cd mid j = some e) (hs : am_step X e j ls st M = some (.inr (.inr v))) (hq : Q v M) : am_wp X d mid j ls st M Q := by
  refine ⟨1, v, M, ?_, hq⟩
  simp only [am_ex, hc, Option.bind_some, hs]
theorem am_wp_call {y : Nat} {vs rest l0 : List Value} (hc : am_cd mid j = some e) (hs : am_step X e j ls st M = some (.inr (.inl (y, vs, rest)))) (he : am_ent (am_nL y) vs = l0) (hl : l0.length = am_nL y)
    (k : am_wp X d y 0 l0 [] M (fun v M' => am_wp X (d + 1) mid (j + 1) ls (v.toList ++ rest) M' Q)) : am_wp X (d + 1) mid j ls st M Q := by
  obtain ⟨n, v, M1, h, n2, v2, M2, h2, hq⟩ := k
  refine ⟨max n n2 + 1, v2, M2, ?_, hq⟩
  simp only [am_ex, hc, Option.bind_some, hs]
  rw [he, if_pos hl, am_ex_mono n (Nat.le_max_left n n2) (Nat.le_refl _) h]
  exact am_ex_mono n2 (Nat.le_max_right n n2) (Nat.le_refl _) h2
theorem am_wp_mono {Q' : Option Value → am_M → Prop} (h : am_wp X d mid j ls st M Q) (hq : ∀ v M', Q v M' → Q' v M') : am_wp X d mid j ls st M Q' := by
  obtain ⟨n, v, M1, h, hh⟩ := h
  exact ⟨n, v, M1, h, hq _ _ hh⟩
theorem am_wp_deep {d' : Nat} (h : am_wp X d mid j ls st M Q) (hd : d ≤ d') : am_wp X d' mid j ls st M Q := by
  obtain ⟨n, v, M1, h, hh⟩ := h
  exact ⟨n, v, M1, am_ex_mono n (Nat.le_refl _) hd h, hh⟩
end AWP
section AWI
variable {X : Nat × (Nat → Int32)} {d mid j : Nat} {ls st : List Value} {M : am_M} {Q : Option Value → am_M → Prop}
variable {p r1 r2 r3 ix : Nat} {k4 : Fin 4} {i : Nat} {x y : Int32} {lx ly : Int64} {a b : Nat}
variable {sh : List (Nat × Nat)} {mr : List (List (Option Nat))} {mi : Nat → Nat → Int32} {ml : Nat → Nat → Int64}
theorem wi_aload_n (hc : am_cd mid j = some (.aload_n k4, p, r1, r2, r3)) (hl : ls[k4.val]? = some (.ref a)) (k : am_wp X d mid (j + 1) ls (.ref a :: st) M Q) : am_wp X d mid j ls st M Q := am_wp_next hc (by simp [am_step, am_lda, hl, am_nx]) k
theorem wi_aload (hc : am_cd mid j = some (.aload i, p, r1, r2, r3)) (hl : ls[i]? = some (.ref a)) (k : am_wp X d mid (j + 1) ls (.ref a :: st) M Q) : am_wp X d mid j ls st M Q := am_wp_next hc (by simp [am_step, am_lda, hl, am_nx]) k
theorem wi_iload_n (hc : am_cd mid j = some (.iload_n k4, p, r1, r2, r3)) (hl : ls[k4.val]? = some (.int x)) (k : am_wp X d mid (j + 1) ls (.int x :: st) M Q) : am_wp X d mid j ls st M Q := am_wp_next hc (by simp [am_step, am_ldi, hl, am_nx]) k
theorem wi_iload (hc : am_cd mid j = some (.iload i, p, r1, r2, r3)) (hl : ls[i]? = some (.int x)) (k : am_wp X d mid (j + 1) ls (.int x :: st) M Q) : am_wp X d mid j ls st M Q := am_wp_next hc (by simp [am_step, am_ldi, hl, am_nx]) k
theorem wi_lload_n (hc : am_cd mid j = some (.lload_n k4, p, r1, r2, r3)) (hl : ls[k4.val]? = some (.long lx)) (k : am_wp X d mid (j + 1) ls (.long lx :: st) M Q) : am_wp X d mid j ls st M Q := am_wp_next hc (by simp [am_step, am_ldl, hl, am_nx]) k
theorem wi_lload (hc : am_cd mid j = some (.lload i, p, r1, r2, r3)) (hl : ls[i]? = some (.long lx)) (k : am_wp X d mid (j + 1) ls (.long lx :: st) M Q) : am_wp X d mid j ls st M Q := am_wp_next hc (by simp [am_step, am_ldl, hl, am_nx]) k
theorem wi_istore_n {l' : List Value} (hc : am_cd mid j = some (.istore_n k4, p, r1, r2, r3)) (h1 : k4.val < ls.length) (h2 : am_ok1 ls k4.val = true) (h3 : ls.set k4.val (.int x) = l') (k : am_wp X d mid (j + 1) l' st M Q) : am_wp X d mid j ls (.int x :: st) M Q := am_wp_next hc (by simp [am_step, am_sti, h1, h2, h3, am_nx]) k
theorem wi_istore {l' : List Value} (hc : am_cd mid j = some (.istore i, p, r1, r2, r3)) (h1 : i < ls.length) (h2 : am_ok1 ls i = true) (h3 : ls.set i (.int x) = l') (k : am_wp X d mid (j + 1) l' st M Q) : am_wp X d mid j ls (.int x :: st) M Q := am_wp_next hc (by simp [am_step, am_sti, h1, h2, h3, am_nx]) k
theorem wi_astore_n {l' : List Value} (hc : am_cd mid j = some (.astore_n k4, p, r1, r2, r3)) (h1 : k4.val < ls.length) (h2 : am_ok1 ls k4.val = true) (h3 : ls.set k4.val (.ref a) = l') (k : am_wp X d mid (j + 1) l' st M Q) : am_wp X d mid j ls (.ref a :: st) M Q := am_wp_next hc (by simp [am_step, am_sta, h1, h2, h3, am_nx]) k
theorem wi_astore {l' : List Value} (hc : am_cd mid j = some (.astore i, p, r1, r2, r3)) (h1 : i < ls.length) (h2 : am_ok1 ls i = true) (h3 : ls.set i (.ref a) = l') (k : am_wp X d mid (j + 1) l' st M Q) : am_wp X d mid j ls (.ref a :: st) M Q := am_wp_next hc (by simp [am_step, am_sta, h1, h2, h3, am_nx]) k
theorem wi_lstore_n {l' : List Value} (hc : am_cd mid j = some (.lstore_n k4, p, r1, r2, r3)) (h1 : k4.val + 1 < ls.length) (h2 : am_ok1 ls k4.val = true) (h3 : (ls.set k4.val (.long lx)).set (k4.val + 1) (.retAddr 0) = l') (k : am_wp X d mid (j + 1) l' st M Q) : am_wp X d mid j ls (.long lx :: st) M Q := am_wp_next hc (by simp [am_step, am_stl, h1, h2, h3, am_nx]) k
theorem wi_lstore {l' : List Value} (hc : am_cd mid j = some (.lstore i, p, r1, r2, r3)) (h1 : i + 1 < ls.length) (h2 : am_ok1 ls i = true) (h3 : (ls.set i (.long lx)).set (i + 1) (.retAddr 0) = l') (k : am_wp X d mid (j + 1) l' st M Q) : am_wp X d mid j ls (.long lx :: st) M Q := am_wp_next hc (by simp [am_step, am_stl, h1, h2, h3, am_nx]) k
theorem wi_iinc {l' : List Value} {n : Int} {z : Int32} (hc : am_cd mid j = some (.iinc i n, p, r1, r2, r3)) (hl : ls[i]? = some (.int x)) (h2 : am_ok1 ls i = true) (hz : x + Int32.ofInt n = z) (h3 : ls.set i (.int z) = l') (k : am_wp X d mid (j + 1) l' st M Q) : am_wp X d mid j ls st M Q := am_wp_next hc (by simp [am_step, am_inc, hl, h2, hz, h3, am_nx]) k
theorem wi_iconst {n : Int} (hc : am_cd mid j = some (.iconst n, p, r1, r2, r3)) (hx : Int32.ofInt n = x) (k : am_wp X d mid (j + 1) ls (.int x :: st) M Q) : am_wp X d mid j ls st M Q := am_wp_next hc (by simp [am_step, hx, am_nx]) k
theorem wi_bipush {n : Int} (hc : am_cd mid j = some (.bipush n, p, r1, r2, r3)) (hx : (Int8.ofInt n).toInt32 = x) (k : am_wp X d mid (j + 1) ls (.int x :: st) M Q) : am_wp X d mid j ls st M Q := am_wp_next hc (by simp [am_step, hx, am_nx]) k
theorem wi_sipush {n : Int} (hc : am_cd mid j = some (.sipush n, p, r1, r2, r3)) (hx : (Int16.ofInt n).toInt32 = x) (k : am_wp X d mid (j + 1) ls (.int x :: st) M Q) : am_wp X d mid j ls st M Q := am_wp_next hc (by simp [am_step, hx, am_nx]) k
theorem wi_lconst {n : Fin 2} (hc : am_cd mid j = some (.lconst n, p, r1, r2, r3)) (hx : Int64.ofNat n.val = lx) (k : am_wp X d mid (j + 1) ls (.long lx :: st) M Q) : am_wp X d mid j ls st M Q := am_wp_next hc (by simp [am_step, hx, am_nx]) k
theorem wi_ldc2_w (hc : am_cd mid j = some (.ldc2_w ix, p, r1, r2, r3)) (hx : am_lcT.getD r1 0 = lx) (k : am_wp X d mid (j + 1) ls (.long lx :: st) M Q) : am_wp X d mid j ls st M Q := am_wp_next hc (by simp only [am_step, hx, am_nx]) k
theorem wi_ldc (hc : am_cd mid j = some (.ldc ix, p, r1, r2, r3)) (hx : 1000000 + r1 = a) (k : am_wp X d mid (j + 1) ls (.ref a :: st) M Q) : am_wp X d mid j ls st M Q := am_wp_next hc (by simp only [am_step, hx, am_nx]) k
theorem wi_getstatic (hc : am_cd mid j = some (.getstatic ix, p, r1, r2, r3)) (k : am_wp X d mid (j + 1) ls (.ref 1000040 :: st) M Q) : am_wp X d mid j ls st M Q := am_wp_next hc (by simp only [am_step, am_nx]) k
theorem wi_getI (hc : am_cd mid j = some (.getfield ix, p, r1, r2, 0)) (hk : am_kd (sh, mr, mi, ml) a = r1) (k : am_wp X d mid (j + 1) ls (.int (mi a r2) :: st) (sh, mr, mi, ml) Q) : am_wp X d mid j ls (.ref a :: st) (sh, mr, mi, ml) Q := am_wp_next hc (by simp [am_step, am_getf, hk, am_nx]) k
theorem wi_getL (hc : am_cd mid j = some (.getfield ix, p, r1, r2, 1)) (hk : am_kd (sh, mr, mi, ml) a = r1) (k : am_wp X d mid (j + 1) ls (.long (ml a r2) :: st) (sh, mr, mi, ml) Q) : am_wp X d mid j ls (.ref a :: st) (sh, mr, mi, ml) Q := am_wp_next hc (by simp [am_step, am_getf, hk, am_nx]) k
theorem wi_getR (hc : am_cd mid j = some (.getfield ix, p, r1, r2, 2)) (hk : am_kd (sh, mr, mi, ml) a = r1) (hr : am_rd mr a r2 = some b) (k : am_wp X d mid (j + 1) ls (.ref b :: st) (sh, mr, mi, ml) Q) : am_wp X d mid j ls (.ref a :: st) (sh, mr, mi, ml) Q := am_wp_next hc (by simp [am_step, am_getf, hk, hr, am_rv, am_nx]) k
theorem wi_putI (hc : am_cd mid j = some (.putfield ix, p, r1, r2, 0)) (hk : am_kd (sh, mr, mi, ml) a = r1) (k : am_wp X d mid (j + 1) ls st (sh, mr, u2 mi a r2 x, ml) Q) : am_wp X d mid j ls (.int x :: .ref a :: st) (sh, mr, mi, ml) Q := am_wp_next hc (by simp [am_step, am_putf, hk, am_nx]) k
theorem wi_putL (hc : am_cd mid j = some (.putfield ix, p, r1, r2, 1)) (hk : am_kd (sh, mr, mi, ml) a = r1) (k : am_wp X d mid (j + 1) ls st (sh, mr, mi, u2 ml a r2 lx) Q) : am_wp X d mid j ls (.long lx :: .ref a :: st) (sh, mr, mi, ml) Q := am_wp_next hc (by simp [am_step, am_putf, hk, am_nx]) k
theorem wi_putR {mr' : List (List (Option Nat))} (hc : am_cd mid j = some (.putfield ix, p, r1, r2, 2)) (hk : am_kd (sh, mr, mi, ml) a = r1 ∧ b < 1000000 ∧ r2 < (mr[a]?.getD []).length) (hw : am_wr mr a r2 (some b) = mr') (k : am_wp X d mid (j + 1) ls st (sh, mr', mi, ml) Q) : am_wp X d mid j ls (.ref b :: .ref a :: st) (sh, mr, mi, ml) Q := am_wp_next hc (by simp [am_step, am_putf, hk, hw, am_nx]) k
theorem wi_iaload {n q : Nat} (hc : am_cd mid j = some (.iaload, p, r1, r2, r3)) (ha : am_ln (sh, mr, mi, ml) a 100 = some n) (hi : am_ix x n = true) (hq : x.toNatClampNeg = q) (h5 : ¬ a = 1000050) (h4 : ¬ a = 1000040) (k : am_wp X d mid (j + 1) ls (.int (mi a q) :: st) (sh, mr, mi, ml) Q) : am_wp X d mid j ls (.int x :: .ref a :: st) (sh, mr, mi, ml) Q := am_wp_next hc (by simp [am_step, am_iald, ha, hi, hq, h5, h4, am_nx]) k
theorem wi_ialoadX {q : Nat} (hc : am_cd mid j = some (.iaload, p, r1, r2, r3)) (hX : X.1 ≤ 4096) (hi : am_ix x X.1 = true) (hq : x.toNatClampNeg = q) (k : am_wp X d mid (j + 1) ls (.int (X.2 q) :: st) M Q) : am_wp X d mid j ls (.int x :: .ref 1000050 :: st) M Q := am_wp_next hc (by simp [am_step, am_iald, hi, hq, hX, am_nx]) k
theorem wi_ialoadO {q : Nat} (hc : am_cd mid j = some (.iaload, p, r1, r2, r3)) (hi : am_ix x 8 = true) (hq : x.toNatClampNeg = q) (k : am_wp X d mid (j + 1) ls (.int (am_orders q) :: st) M Q) : am_wp X d mid j ls (.int x :: .ref 1000040 :: st) M Q := am_wp_next hc (by simp [am_step, am_iald, hi, hq, am_nx]) k
theorem wi_baload {n q : Nat} (hc : am_cd mid j = some (.baload, p, r1, r2, r3)) (ha : am_ln (sh, mr, mi, ml) a 101 = some n ∨ am_ln (sh, mr, mi, ml) a 102 = some n) (hi : am_ix x n = true) (hq : x.toNatClampNeg = q) (k : am_wp X d mid (j + 1) ls (.int (mi a q) :: st) (sh, mr, mi, ml) Q) : am_wp X d mid j ls (.int x :: .ref a :: st) (sh, mr, mi, ml) Q := am_wp_next hc (by
  have hne : ∀ n1 n2, am_ln (sh, mr, mi, ml) a 101 = some n1 → am_ln (sh, mr, mi, ml) a 102 = some n2 → False := by
    intro n1 n2 h1 h2
    unfold am_ln at h1 h2
    revert h1 h2
    split
    · split <;> split <;> simp_all
    · simp
  rcases ha with h | h
  · simp [am_step, am_bald, h, hi, hq, am_nx]
  · cases h1 : am_ln (sh, mr, mi, ml) a 101 with
    | some n1 => exact (hne _ _ h1 h).elim
    | none => simp [am_step, am_bald, h, h1, hi, hq, am_nx]) k
theorem wi_laload {n q : Nat} (hc : am_cd mid j = some (.laload, p, r1, r2, r3)) (ha : am_ln (sh, mr, mi, ml) a 103 = some n) (hi : am_ix x n = true) (hq : x.toNatClampNeg = q) (k : am_wp X d mid (j + 1) ls (.long (ml a q) :: st) (sh, mr, mi, ml) Q) : am_wp X d mid j ls (.int x :: .ref a :: st) (sh, mr, mi, ml) Q := am_wp_next hc (by simp [am_step, am_lald, ha, hi, hq, am_nx]) k
theorem wi_aaload {n q : Nat} (hc : am_cd mid j = some (.aaload, p, r1, r2, r3)) (ha : am_ln (sh, mr, mi, ml) a 104 = some n ∨ am_ln (sh, mr, mi, ml) a 105 = some n) (hi : am_ix x n = true) (hq : x.toNatClampNeg = q) (hr : am_rd mr a q = some b) (k : am_wp X d mid (j + 1) ls (.ref b :: st) (sh, mr, mi, ml) Q) : am_wp X d mid j ls (.int x :: .ref a :: st) (sh, mr, mi, ml) Q := am_wp_next hc (by
  have hne : ∀ n1 n2, am_ln (sh, mr, mi, ml) a 104 = some n1 → am_ln (sh, mr, mi, ml) a 105 = some n2 → False := by
    intro n1 n2 h1 h2
    unfold am_ln at h1 h2
    revert h1 h2
    split
    · split <;> split <;> simp_all
    · simp
  rcases ha with h | h
  · simp [am_step, am_aald, h, hi, hq, hr, am_rv, am_nx]
  · cases h1 : am_ln (sh, mr, mi, ml) a 104 with
    | some n1 => exact (hne _ _ h1 h).elim
    | none => simp [am_step, am_aald, h, h1, hi, hq, hr, am_rv, am_nx]) k
theorem wi_iastore {n q : Nat} (hc : am_cd mid j = some (.iastore, p, r1, r2, r3)) (ha : am_ln (sh, mr, mi, ml) a 100 = some n) (hi : am_ix x n = true) (hq : x.toNatClampNeg = q) (k : am_wp X d mid (j + 1) ls st (sh, mr, u2 mi a q y, ml) Q) : am_wp X d mid j ls (.int y :: .int x :: .ref a :: st) (sh, mr, mi, ml) Q := am_wp_next hc (by simp [am_step, am_iast, ha, hi, hq, am_nx]) k
theorem wi_bastoreB {n q : Nat} {z : Int32} (hc : am_cd mid j = some (.bastore, p, r1, r2, r3)) (ha : am_ln (sh, mr, mi, ml) a 101 = some n) (hi : am_ix x n = true) (hq : x.toNatClampNeg = q) (hz : vp_nar .byte y = z) (k : am_wp X d mid (j + 1) ls st (sh, mr, u2 mi a q z, ml) Q) : am_wp X d mid j ls (.int y :: .int x :: .ref a :: st) (sh, mr, mi, ml) Q := am_wp_next hc (by simp [am_step, am_bast, ha, hi, hq, hz, am_nx]) k
theorem wi_bastoreZ {n q : Nat} {z : Int32} (hc : am_cd mid j = some (.bastore, p, r1, r2, r3)) (ha0 : am_ln (sh, mr, mi, ml) a 101 = none) (ha : am_ln (sh, mr, mi, ml) a 102 = some n) (hi : am_ix x n = true) (hq : x.toNatClampNeg = q) (hz : vp_nar .boolean y = z) (k : am_wp X d mid (j + 1) ls st (sh, mr, u2 mi a q z, ml) Q) : am_wp X d mid j ls (.int y :: .int x :: .ref a :: st) (sh, mr, mi, ml) Q := am_wp_next hc (by simp [am_step, am_bast, ha, ha0, hi, hq, hz, am_nx]) k
theorem wi_lastore {n q : Nat} (hc : am_cd mid j = some (.lastore, p, r1, r2, r3)) (ha : am_ln (sh, mr, mi, ml) a 103 = some n) (hi : am_ix x n = true) (hq : x.toNatClampNeg = q) (k : am_wp X d mid (j + 1) ls st (sh, mr, mi, u2 ml a q ly) Q) : am_wp X d mid j ls (.long ly :: .int x :: .ref a :: st) (sh, mr, mi, ml) Q := am_wp_next hc (by simp [am_step, am_last, ha, hi, hq, am_nx]) k
theorem wi_arraylength (hc : am_cd mid j = some (.arraylength, p, r1, r2, r3)) (hX : X.1 ≤ 4096) (hx : Int32.ofNat X.1 = x) (k : am_wp X d mid (j + 1) ls (.int x :: st) M Q) : am_wp X d mid j ls (.ref 1000050 :: st) M Q := am_wp_next hc (by simp [am_step, am_alen, hx, hX, am_nx]) k
theorem wi_iadd (hc : am_cd mid j = some (.iadd, p, r1, r2, r3)) (k : am_wp X d mid (j + 1) ls (.int (x + y) :: st) M Q) : am_wp X d mid j ls (.int y :: .int x :: st) M Q := am_wp_next hc rfl k
theorem wi_isub (hc : am_cd mid j = some (.isub, p, r1, r2, r3)) (k : am_wp X d mid (j + 1) ls (.int (x - y) :: st) M Q) : am_wp X d mid j ls (.int y :: .int x :: st) M Q := am_wp_next hc rfl k
theorem wi_imul (hc : am_cd mid j = some (.imul, p, r1, r2, r3)) (k : am_wp X d mid (j + 1) ls (.int (x * y) :: st) M Q) : am_wp X d mid j ls (.int y :: .int x :: st) M Q := am_wp_next hc rfl k
theorem wi_iand (hc : am_cd mid j = some (.iand, p, r1, r2, r3)) (k : am_wp X d mid (j + 1) ls (.int (x &&& y) :: st) M Q) : am_wp X d mid j ls (.int y :: .int x :: st) M Q := am_wp_next hc rfl k
theorem wi_ior (hc : am_cd mid j = some (.ior, p, r1, r2, r3)) (k : am_wp X d mid (j + 1) ls (.int (x ||| y) :: st) M Q) : am_wp X d mid j ls (.int y :: .int x :: st) M Q := am_wp_next hc rfl k
theorem wi_ixor (hc : am_cd mid j = some (.ixor, p, r1, r2, r3)) (k : am_wp X d mid (j + 1) ls (.int (x ^^^ y) :: st) M Q) : am_wp X d mid j ls (.int y :: .int x :: st) M Q := am_wp_next hc rfl k
theorem wi_ishl (hc : am_cd mid j = some (.ishl, p, r1, r2, r3)) (k : am_wp X d mid (j + 1) ls (.int (x <<< (y &&& 31)) :: st) M Q) : am_wp X d mid j ls (.int y :: .int x :: st) M Q := am_wp_next hc rfl k
theorem wi_ishr (hc : am_cd mid j = some (.ishr, p, r1, r2, r3)) (k : am_wp X d mid (j + 1) ls (.int (x >>> (y &&& 31)) :: st) M Q) : am_wp X d mid j ls (.int y :: .int x :: st) M Q := am_wp_next hc rfl k
theorem wi_iushr (hc : am_cd mid j = some (.iushr, p, r1, r2, r3)) (k : am_wp X d mid (j + 1) ls (.int (x.toUInt32 >>> (y.toUInt32 &&& Int32.toUInt32 31)).toInt32 :: st) M Q) : am_wp X d mid j ls (.int y :: .int x :: st) M Q := am_wp_next hc rfl k
theorem wi_idiv (hc : am_cd mid j = some (.idiv, p, r1, r2, r3)) (h0 : ¬ y = 0) (k : am_wp X d mid (j + 1) ls (.int (x / y) :: st) M Q) : am_wp X d mid j ls (.int y :: .int x :: st) M Q := am_wp_next hc (by simp [am_step, am_idiv, h0, am_nx]) k
theorem wi_ineg (hc : am_cd mid j = some (.ineg, p, r1, r2, r3)) (k : am_wp X d mid (j + 1) ls (.int (-x) :: st) M Q) : am_wp X d mid j ls (.int x :: st) M Q := am_wp_next hc rfl k
theorem wi_i2b (hc : am_cd mid j = some (.i2b, p, r1, r2, r3)) (k : am_wp X d mid (j + 1) ls (.int x.toInt8.toInt32 :: st) M Q) : am_wp X d mid j ls (.int x :: st) M Q := am_wp_next hc rfl k
theorem wi_i2l (hc : am_cd mid j = some (.i2l, p, r1, r2, r3)) (k : am_wp X d mid (j + 1) ls (.long x.toInt64 :: st) M Q) : am_wp X d mid j ls (.int x :: st) M Q := am_wp_next hc rfl k
theorem wi_l2i (hc : am_cd mid j = some (.l2i, p, r1, r2, r3)) (k : am_wp X d mid (j + 1) ls (.int lx.toInt32 :: st) M Q) : am_wp X d mid j ls (.long lx :: st) M Q := am_wp_next hc rfl k
theorem wi_ladd (hc : am_cd mid j = some (.ladd, p, r1, r2, r3)) (k : am_wp X d mid (j + 1) ls (.long (lx + ly) :: st) M Q) : am_wp X d mid j ls (.long ly :: .long lx :: st) M Q := am_wp_next hc rfl k
theorem wi_lsub (hc : am_cd mid j = some (.lsub, p, r1, r2, r3)) (k : am_wp X d mid (j + 1) ls (.long (lx - ly) :: st) M Q) : am_wp X d mid j ls (.long ly :: .long lx :: st) M Q := am_wp_next hc rfl k
theorem wi_lmul (hc : am_cd mid j = some (.lmul, p, r1, r2, r3)) (k : am_wp X d mid (j + 1) ls (.long (lx * ly) :: st) M Q) : am_wp X d mid j ls (.long ly :: .long lx :: st) M Q := am_wp_next hc rfl k
theorem wi_ldiv (hc : am_cd mid j = some (.ldiv, p, r1, r2, r3)) (h0 : ¬ ly = 0) (k : am_wp X d mid (j + 1) ls (.long (lx / ly) :: st) M Q) : am_wp X d mid j ls (.long ly :: .long lx :: st) M Q := am_wp_next hc (by simp [am_step, am_ldiv, h0, am_nx]) k
theorem wi_lrem (hc : am_cd mid j = some (.lrem, p, r1, r2, r3)) (h0 : ¬ ly = 0) (k : am_wp X d mid (j + 1) ls (.long (lx - lx / ly * ly) :: st) M Q) : am_wp X d mid j ls (.long ly :: .long lx :: st) M Q := am_wp_next hc (by simp [am_step, am_ldiv, h0, am_nx]) k
theorem wi_lneg (hc : am_cd mid j = some (.lneg, p, r1, r2, r3)) (k : am_wp X d mid (j + 1) ls (.long (-lx) :: st) M Q) : am_wp X d mid j ls (.long lx :: st) M Q := am_wp_next hc rfl k
theorem wi_lcmp (hc : am_cd mid j = some (.lcmp, p, r1, r2, r3)) (k : am_wp X d mid (j + 1) ls (.int (lg_cmp lx ly) :: st) M Q) : am_wp X d mid j ls (.long ly :: .long lx :: st) M Q := am_wp_next hc rfl k
theorem wi_dup {v : Value} (hc : am_cd mid j = some (.dup, p, r1, r2, r3)) (hv : v.category = 1) (k : am_wp X d mid (j + 1) ls (v :: v :: st) M Q) : am_wp X d mid j ls (v :: st) M Q := am_wp_next hc (by simp [am_step, am_dup, hv, am_nx]) k
theorem wi_pop {v : Value} (hc : am_cd mid j = some (.pop, p, r1, r2, r3)) (hv : v.category = 1) (k : am_wp X d mid (j + 1) ls st M Q) : am_wp X d mid j ls (v :: st) M Q := am_wp_next hc (by simp [am_step, am_pop, hv, am_nx]) k
theorem wi_dup2 {v w : Value} (hc : am_cd mid j = some (.dup2, p, r1, r2, r3)) (hv : v.category = 1 ∧ w.category = 1) (k : am_wp X d mid (j + 1) ls (v :: w :: v :: w :: st) M Q) : am_wp X d mid j ls (v :: w :: st) M Q := am_wp_next hc (by simp [am_step, am_dup2, hv, am_nx]) k
theorem wi_goto {z : Int} (hc : am_cd mid j = some (.goto z, p, r1, r2, r3)) (k : am_wp X d mid r1 ls st M Q) : am_wp X d mid j ls st M Q := am_wp_next hc rfl k
theorem wi_icmp {c : ClassFile.Cond} {z : Int} (hc : am_cd mid j = some (.if_icmp c z, p, r1, r2, r3)) (kt : am_cm c x y = true → am_wp X d mid r1 ls st M Q) (kf : am_cm c x y = false → am_wp X d mid (j + 1) ls st M Q) : am_wp X d mid j ls (.int y :: .int x :: st) M Q := by
  cases h : am_cm c x y with
  | true => exact am_wp_next hc (by simp [am_step, am_icmp, h, am_nx]) (kt h)
  | false => exact am_wp_next hc (by simp [am_step, am_icmp, h, am_nx]) (kf h)
theorem wi_ifc {c : ClassFile.Cond} {z : Int} (hc : am_cd mid j = some (.ifCond c z, p, r1, r2, r3)) (kt : am_cm c x 0 = true → am_wp X d mid r1 ls st M Q) (kf : am_cm c x 0 = false → am_wp X d mid (j + 1) ls st M Q) : am_wp X d mid j ls (.int x :: st) M Q := by
  cases h : am_cm c x 0 with
  | true => exact am_wp_next hc (by simp [am_step, am_ifc, h, am_nx]) (kt h)
  | false => exact am_wp_next hc (by simp [am_step, am_ifc, h, am_nx]) (kf h)
end AWI
end
section
/-! ===== the small machine: branches, calls, returns, makings ===== -/
section AW2
variable {X : Nat × (Nat → Int32)} {d mid j : Nat} {ls st : List Value} {M : am_M} {Q : Option Value → am_M → Prop}
variable {p r1 r2 r3 ix : Nat} {x y : Int32} {lx ly : Int64} {a b : Nat} {z : Int}
variable {sh : List (Nat × Nat)} {mr : List (List (Option Nat))} {mi : Nat → Nat → Int32} {ml : Nat → Nat → Int64}
theorem wi_icmp_eq (hc : am_cd mid j = some (.if_icmp .eq z, p, r1, r2, r3)) (kt : x = y → am_wp X d mid r1 ls st M Q) (kf : ¬ (x = y) → am_wp X d mid (j + 1) ls st M Q) : am_wp X d mid j ls (.int y :: .int x :: st) M Q := wi_icmp hc (fun h => kt (of_decide_eq_true h)) (fun h => kf (of_decide_eq_false h))
theorem wi_if_eq (hc : am_cd mid j = some (.ifCond .eq z, p, r1, r2, r3)) (kt : x = 0 → am_wp X d mid r1 ls st M Q) (kf : ¬ (x = 0) → am_wp X d mid (j + 1) ls st M Q) : am_wp X d mid j ls (.int x :: st) M Q := wi_ifc hc (fun h => kt (of_decide_eq_true h)) (fun h => kf (of_decide_eq_false h))
theorem wi_icmp_ne (hc : am_cd mid j = some (.if_icmp .ne z, p, r1, r2, r3)) (kt : ¬ x = y → am_wp X d mid r1 ls st M Q) (kf : ¬ (¬ x = y) → am_wp X d mid (j + 1) ls st M Q) : am_wp X d mid j ls (.int y :: .int x :: st) M Q := wi_icmp hc (fun h => kt (of_decide_eq_true h)) (fun h => kf (of_decide_eq_false h))
theorem wi_if_ne (hc : am_cd mid j = some (.ifCond .ne z, p, r1, r2, r3)) (kt : ¬ x = 0 → am_wp X d mid r1 ls st M Q) (kf : ¬ (¬ x = 0) → am_wp X d mid (j + 1) ls st M Q) : am_wp X d mid j ls (.int x :: st) M Q := wi_ifc hc (fun h => kt (of_decide_eq_true h)) (fun h => kf (of_decide_eq_false h))
theorem wi_icmp_lt (hc : am_cd mid j = some (.if_icmp .lt z, p, r1, r2, r3)) (kt : x < y → am_wp X d mid r1 ls st M Q) (kf : ¬ (x < y) → am_wp X d mid (j + 1) ls st M Q) : am_wp X d mid j ls (.int y :: .int x :: st) M Q := wi_icmp hc (fun h => kt (of_decide_eq_true h)) (fun h => kf (of_decide_eq_false h))
theorem wi_if_lt (hc : am_cd mid j = some (.ifCond .lt z, p, r1, r2, r3)) (kt : x < 0 → am_wp X d mid r1 ls st M Q) (kf : ¬ (x < 0) → am_wp X d mid (j + 1) ls st M Q) : am_wp X d mid j ls (.int x :: st) M Q := wi_ifc hc (fun h => kt (of_decide_eq_true h)) (fun h => kf (of_decide_eq_false h))
theorem wi_icmp_ge (hc : am_cd mid j = some (.if_icmp .ge z, p, r1, r2, r3)) (kt : y ≤ x → am_wp X d mid r1 ls st M Q) (kf : ¬ (y ≤ x) → am_wp X d mid (j + 1) ls st M Q) : am_wp X d mid j ls (.int y :: .int x :: st) M Q := wi_icmp hc (fun h => kt (of_decide_eq_true h)) (fun h => kf (of_decide_eq_false h))
theorem wi_if_ge (hc : am_cd mid j = some (.ifCond .ge z, p, r1, r2, r3)) (kt : 0 ≤ x → am_wp X d mid r1 ls st M Q) (kf : ¬ (0 ≤ x) → am_wp X d mid (j + 1) ls st M Q) : am_wp X d mid j ls (.int x :: st) M Q := wi_ifc hc (fun h => kt (of_decide_eq_true h)) (fun h => kf (of_decide_eq_false h))
theorem wi_icmp_gt (hc : am_cd mid j = some (.if_icmp .gt z, p, r1, r2, r3)) (kt : y < x → am_wp X d mid r1 ls st M Q) (kf : ¬ (y < x) → am_wp X d mid (j + 1) ls st M Q) : am_wp X d mid j ls (.int y :: .int x :: st) M Q := wi_icmp hc (fun h => kt (of_decide_eq_true h)) (fun h => kf (of_decide_eq_false h))
theorem wi_if_gt (hc : am_cd mid j = some (.ifCond .gt z, p, r1, r2, r3)) (kt : 0 < x → am_wp X d mid r1 ls st M Q) (kf : ¬ (0 < x) → am_wp X d mid (j + 1) ls st M Q) : am_wp X d mid j ls (.int x :: st) M Q := wi_ifc hc (fun h => kt (of_decide_eq_true h)) (fun h => kf (of_decide_eq_false h))
theorem wi_icmp_le (hc : am_cd mid j = some (.if_icmp .le z, p, r1, r2, r3)) (kt : x ≤ y → am_wp X d mid r1 ls st M Q) (kf : ¬ (x ≤ y) → am_wp X d mid (j + 1) ls st M Q) : am_wp X d mid j ls (.int y :: .int x :: st) M Q := wi_icmp hc (fun h => kt (of_decide_eq_true h)) (fun h => kf (of_decide_eq_false h))
theorem wi_if_le (hc : am_cd mid j = some (.ifCond .le z, p, r1, r2, r3)) (kt : x ≤ 0 → am_wp X d mid r1 ls st M Q) (kf : ¬ (x ≤ 0) → am_wp X d mid (j + 1) ls st M Q) : am_wp X d mid j ls (.int x :: st) M Q := wi_ifc hc (fun h => kt (of_decide_eq_true h)) (fun h => kf (of_decide_eq_false h))
theorem am_inv_lt {y n b j : Nat} {ls st : List Value} {M : am_M} (h : y < 1000) : am_inv y n b j ls st M = if b = 1 ∨ b = 4 then
      (if n ≤ st.length ∧ am_low (st.drop n) = true then some (.inr (.inl (y, (st.take n).reverse, st.drop n))) else none)
    else
      (match st.drop n with
      | .ref a :: rest => if am_kd M a = ((am_mT[y]?).map (fun q => q.2.2.2.2)).getD 2000 ∧ am_low rest = true then some (.inr (.inl (y, .ref a :: (st.take n).reverse, rest))) else none
      | _ => none) := by
  unfold am_inv
  split <;> first | omega | rfl
theorem wi_callV0 {c1 : Nat} {l0 : List Value} (hc : am_cd mid j = some (.invokevirtual ix, p, r1, 0, r3)) (h1 : r1 < 1000) (hb : r3 = 0 ∨ r3 = 3) (hci : ((am_mT[r1]?).map (fun q => q.2.2.2.2)).getD 2000 = c1) (hk : am_kd M a = c1) (hw : am_low st = true) (he : am_ent (am_nL r1) [.ref a] = l0) (hl : l0.length = am_nL r1)
    (k : am_wp X d r1 0 l0 [] M (fun v M' => am_wp X (d + 1) mid (j + 1) ls (v.toList ++ st) M' Q)) : am_wp X (d + 1) mid j ls (.ref a :: st) M Q :=
  am_wp_call (vs := [.ref a]) (rest := st) hc (by
    have hb2 : ¬ (r3 = 1 ∨ r3 = 4) := by omega
    simp only [am_step]
    rw [am_inv_lt h1, if_neg hb2]
    simp [hci, hk, hw]) he hl k
theorem wi_callI0 {c1 : Nat} {l0 : List Value} (hc : am_cd mid j = some (.invokespecial ix, p, r1, 0, r3)) (h1 : r1 < 1000) (hb : r3 = 2 ∨ r3 = 5) (hci : ((am_mT[r1]?).map (fun q => q.2.2.2.2)).getD 2000 = c1) (hk : am_kd M a = c1) (hw : am_low st = true) (he : am_ent (am_nL r1) [.ref a] = l0) (hl : l0.length = am_nL r1)
    (k : am_wp X d r1 0 l0 [] M (fun v M' => am_wp X (d + 1) mid (j + 1) ls (v.toList ++ st) M' Q)) : am_wp X (d + 1) mid j ls (.ref a :: st) M Q :=
  am_wp_call (vs := [.ref a]) (rest := st) hc (by
    have hb2 : ¬ (r3 = 1 ∨ r3 = 4) := by omega
    simp only [am_step]
    rw [am_inv_lt h1, if_neg hb2]
    simp [hci, hk, hw]) he hl k
theorem wi_callV1 {c1 : Nat} {v1 : Value} {l0 : List Value} (hc : am_cd mid j = some (.invokevirtual ix, p, r1, 1, r3)) (h1 : r1 < 1000) (hb : r3 = 0 ∨ r3 = 3) (hci : ((am_mT[r1]?).map (fun q => q.2.2.2.2)).getD 2000 = c1) (hk : am_kd M a = c1) (hw : am_low st = true) (he : am_ent (am_nL r1) [.ref a, v1] = l0) (hl : l0.length = am_nL r1)
    (k : am_wp X d r1 0 l0 [] M (fun v M' => am_wp X (d + 1) mid (j + 1) ls (v.toList ++ st) M' Q)) : am_wp X (d + 1) mid j ls (v1 :: .ref a :: st) M Q :=
  am_wp_call (vs := [.ref a, v1]) (rest := st) hc (by
    have hb2 : ¬ (r3 = 1 ∨ r3 = 4) := by omega
    simp only [am_step]
    rw [am_inv_lt h1, if_neg hb2]
    simp [hci, hk, hw]) he hl k
theorem wi_callI1 {c1 : Nat} {v1 : Value} {l0 : List Value} (hc : am_cd mid j = some (.invokespecial ix, p, r1, 1, r3)) (h1 : r1 < 1000) (hb : r3 = 2 ∨ r3 = 5) (hci : ((am_mT[r1]?).map (fun q => q.2.2.2.2)).getD 2000 = c1) (hk : am_kd M a = c1) (hw : am_low st = true) (he : am_ent (am_nL r1) [.ref a, v1] = l0) (hl : l0.length = am_nL r1)
    (k : am_wp X d r1 0 l0 [] M (fun v M' => am_wp X (d + 1) mid (j + 1) ls (v.toList ++ st) M' Q)) : am_wp X (d + 1) mid j ls (v1 :: .ref a :: st) M Q :=
  am_wp_call (vs := [.ref a, v1]) (rest := st) hc (by
    have hb2 : ¬ (r3 = 1 ∨ r3 = 4) := by omega
    simp only [am_step]
    rw [am_inv_lt h1, if_neg hb2]
    simp [hci, hk, hw]) he hl k
theorem wi_callV2 {c1 : Nat} {v1 v2 : Value} {l0 : List Value} (hc : am_cd mid j = some (.invokevirtual ix, p, r1, 2, r3)) (h1 : r1 < 1000) (hb : r3 = 0 ∨ r3 = 3) (hci : ((am_mT[r1]?).map (fun q => q.2.2.2.2)).getD 2000 = c1) (hk : am_kd M a = c1) (hw : am_low st = true) (he : am_ent (am_nL r1) [.ref a, v1, v2] = l0) (hl : l0.length = am_nL r1)
    (k : am_wp X d r1 0 l0 [] M (fun v M' => am_wp X (d + 1) mid (j + 1) ls (v.toList ++ st) M' Q)) : am_wp X (d + 1) mid j ls (v2 :: v1 :: .ref a :: st) M Q :=
  am_wp_call (vs := [.ref a, v1, v2]) (rest := st) hc (by
    have hb2 : ¬ (r3 = 1 ∨ r3 = 4) := by omega
    simp only [am_step]
    rw [am_inv_lt h1, if_neg hb2]
    simp [hci, hk, hw]) he hl k
theorem wi_callV3 {c1 : Nat} {v1 v2 v3 : Value} {l0 : List Value} (hc : am_cd mid j = some (.invokevirtual ix, p, r1, 3, r3)) (h1 : r1 < 1000) (hb : r3 = 0 ∨ r3 = 3) (hci : ((am_mT[r1]?).map (fun q => q.2.2.2.2)).getD 2000 = c1) (hk : am_kd M a = c1) (hw : am_low st = true) (he : am_ent (am_nL r1) [.ref a, v1, v2, v3] = l0) (hl : l0.length = am_nL r1)
    (k : am_wp X d r1 0 l0 [] M (fun v M' => am_wp X (d + 1) mid (j + 1) ls (v.toList ++ st) M' Q)) : am_wp X (d + 1) mid j ls (v3 :: v2 :: v1 :: .ref a :: st) M Q :=
  am_wp_call (vs := [.ref a, v1, v2, v3]) (rest := st) hc (by
    have hb2 : ¬ (r3 = 1 ∨ r3 = 4) := by omega
    simp only [am_step]
    rw [am_inv_lt h1, if_neg hb2]
    simp [hci, hk, hw]) he hl k
theorem wi_callV4 {c1 : Nat} {v1 v2 v3 v4 : Value} {l0 : List Value} (hc : am_cd mid j = some (.invokevirtual ix, p, r1, 4, r3)) (h1 : r1 < 1000) (hb : r3 = 0 ∨ r3 = 3) (hci : ((am_mT[r1]?).map (fun q => q.2.2.2.2)).getD 2000 = c1) (hk : am_kd M a = c1) (hw : am_low st = true) (he : am_ent (am_nL r1) [.ref a, v1, v2, v3, v4] = l0) (hl : l0.length = am_nL r1)
    (k : am_wp X d r1 0 l0 [] M (fun v M' => am_wp X (d + 1) mid (j + 1) ls (v.toList ++ st) M' Q)) : am_wp X (d + 1) mid j ls (v4 :: v3 :: v2 :: v1 :: .ref a :: st) M Q :=
  am_wp_call (vs := [.ref a, v1, v2, v3, v4]) (rest := st) hc (by
    have hb2 : ¬ (r3 = 1 ∨ r3 = 4) := by omega
    simp only [am_step]
    rw [am_inv_lt h1, if_neg hb2]
    simp [hci, hk, hw]) he hl k
theorem wi_callV5 {c1 : Nat} {v1 v2 v3 v4 v5 : Value} {l0 : List Value} (hc : am_cd mid j = some (.invokevirtual ix, p, r1, 5, r3)) (h1 : r1 < 1000) (hb : r3 = 0 ∨ r3 = 3) (hci : ((am_mT[r1]?).map (fun q => q.2.2.2.2)).getD 2000 = c1) (hk : am_kd M a = c1) (hw : am_low st = true) (he : am_ent (am_nL r1) [.ref a, v1, v2, v3, v4, v5] = l0) (hl : l0.length = am_nL r1)
    (k : am_wp X d r1 0 l0 [] M (fun v M' => am_wp X (d + 1) mid (j + 1) ls (v.toList ++ st) M' Q)) : am_wp X (d + 1) mid j ls (v5 :: v4 :: v3 :: v2 :: v1 :: .ref a :: st) M Q :=
  am_wp_call (vs := [.ref a, v1, v2, v3, v4, v5]) (rest := st) hc (by
    have hb2 : ¬ (r3 = 1 ∨ r3 = 4) := by omega
    simp only [am_step]
    rw [am_inv_lt h1, if_neg hb2]
    simp [hci, hk, hw]) he hl k
theorem wi_callV6 {c1 : Nat} {v1 v2 v3 v4 v5 v6 : Value} {l0 : List Value} (hc : am_cd mid j = some (.invokevirtual ix, p, r1, 6, r3)) (h1 : r1 < 1000) (hb : r3 = 0 ∨ r3 = 3) (hci : ((am_mT[r1]?).map (fun q => q.2.2.2.2)).getD 2000 = c1) (hk : am_kd M a = c1) (hw : am_low st = true) (he : am_ent (am_nL r1) [.ref a, v1, v2, v3, v4, v5, v6] = l0) (hl : l0.length = am_nL r1)
    (k : am_wp X d r1 0 l0 [] M (fun v M' => am_wp X (d + 1) mid (j + 1) ls (v.toList ++ st) M' Q)) : am_wp X (d + 1) mid j ls (v6 :: v5 :: v4 :: v3 :: v2 :: v1 :: .ref a :: st) M Q :=
  am_wp_call (vs := [.ref a, v1, v2, v3, v4, v5, v6]) (rest := st) hc (by
    have hb2 : ¬ (r3 = 1 ∨ r3 = 4) := by omega
    simp only [am_step]
    rw [am_inv_lt h1, if_neg hb2]
    simp [hci, hk, hw]) he hl k
theorem wi_callV7 {c1 : Nat} {v1 v2 v3 v4 v5 v6 v7 : Value} {l0 : List Value} (hc : am_cd mid j = some (.invokevirtual ix, p, r1, 7, r3)) (h1 : r1 < 1000) (hb : r3 = 0 ∨ r3 = 3) (hci : ((am_mT[r1]?).map (fun q => q.2.2.2.2)).getD 2000 = c1) (hk : am_kd M a = c1) (hw : am_low st = true) (he : am_ent (am_nL r1) [.ref a, v1, v2, v3, v4, v5, v6, v7] = l0) (hl : l0.length = am_nL r1)
    (k : am_wp X d r1 0 l0 [] M (fun v M' => am_wp X (d + 1) mid (j + 1) ls (v.toList ++ st) M' Q)) : am_wp X (d + 1) mid j ls (v7 :: v6 :: v5 :: v4 :: v3 :: v2 :: v1 :: .ref a :: st) M Q :=
  am_wp_call (vs := [.ref a, v1, v2, v3, v4, v5, v6, v7]) (rest := st) hc (by
    have hb2 : ¬ (r3 = 1 ∨ r3 = 4) := by omega
    simp only [am_step]
    rw [am_inv_lt h1, if_neg hb2]
    simp [hci, hk, hw]) he hl k
theorem wi_callS0 {l0 : List Value} (hc : am_cd mid j = some (.invokestatic ix, p, r1, 0, r3)) (h1 : r1 < 1000) (hb : r3 = 1 ∨ r3 = 4) (hw : am_low st = true) (he : am_ent (am_nL r1) [] = l0) (hl : l0.length = am_nL r1)
    (k : am_wp X d r1 0 l0 [] M (fun v M' => am_wp X (d + 1) mid (j + 1) ls (v.toList ++ st) M' Q)) : am_wp X (d + 1) mid j ls (st) M Q :=
  am_wp_call (vs := []) (rest := st) hc (by
    simp only [am_step]
    rw [am_inv_lt h1, if_pos hb]
    simp [hw]) he hl k
theorem wi_callS1 {v1 : Value} {l0 : List Value} (hc : am_cd mid j = some (.invokestatic ix, p, r1, 1, r3)) (h1 : r1 < 1000) (hb : r3 = 1 ∨ r3 = 4) (hw : am_low st = true) (he : am_ent (am_nL r1) [v1] = l0) (hl : l0.length = am_nL r1)
    (k : am_wp X d r1 0 l0 [] M (fun v M' => am_wp X (d + 1) mid (j + 1) ls (v.toList ++ st) M' Q)) : am_wp X (d + 1) mid j ls (v1 :: st) M Q :=
  am_wp_call (vs := [v1]) (rest := st) hc (by
    simp only [am_step]
    rw [am_inv_lt h1, if_pos hb]
    simp [hw]) he hl k
theorem wi_callS2 {v1 v2 : Value} {l0 : List Value} (hc : am_cd mid j = some (.invokestatic ix, p, r1, 2, r3)) (h1 : r1 < 1000) (hb : r3 = 1 ∨ r3 = 4) (hw : am_low st = true) (he : am_ent (am_nL r1) [v1, v2] = l0) (hl : l0.length = am_nL r1)
    (k : am_wp X d r1 0 l0 [] M (fun v M' => am_wp X (d + 1) mid (j + 1) ls (v.toList ++ st) M' Q)) : am_wp X (d + 1) mid j ls (v2 :: v1 :: st) M Q :=
  am_wp_call (vs := [v1, v2]) (rest := st) hc (by
    simp only [am_step]
    rw [am_inv_lt h1, if_pos hb]
    simp [hw]) he hl k
theorem wi_callS3 {v1 v2 v3 : Value} {l0 : List Value} (hc : am_cd mid j = some (.invokestatic ix, p, r1, 3, r3)) (h1 : r1 < 1000) (hb : r3 = 1 ∨ r3 = 4) (hw : am_low st = true) (he : am_ent (am_nL r1) [v1, v2, v3] = l0) (hl : l0.length = am_nL r1)
    (k : am_wp X d r1 0 l0 [] M (fun v M' => am_wp X (d + 1) mid (j + 1) ls (v.toList ++ st) M' Q)) : am_wp X (d + 1) mid j ls (v3 :: v2 :: v1 :: st) M Q :=
  am_wp_call (vs := [v1, v2, v3]) (rest := st) hc (by
    simp only [am_step]
    rw [am_inv_lt h1, if_pos hb]
    simp [hw]) he hl k
theorem wi_callS4 {v1 v2 v3 v4 : Value} {l0 : List Value} (hc : am_cd mid j = some (.invokestatic ix, p, r1, 4, r3)) (h1 : r1 < 1000) (hb : r3 = 1 ∨ r3 = 4) (hw : am_low st = true) (he : am_ent (am_nL r1) [v1, v2, v3, v4] = l0) (hl : l0.length = am_nL r1)
    (k : am_wp X d r1 0 l0 [] M (fun v M' => am_wp X (d + 1) mid (j + 1) ls (v.toList ++ st) M' Q)) : am_wp X (d + 1) mid j ls (v4 :: v3 :: v2 :: v1 :: st) M Q :=
  am_wp_call (vs := [v1, v2, v3, v4]) (rest := st) hc (by
    simp only [am_step]
    rw [am_inv_lt h1, if_pos hb]
    simp [hw]) he hl k
theorem wi_callS5 {v1 v2 v3 v4 v5 : Value} {l0 : List Value} (hc : am_cd mid j = some (.invokestatic ix, p, r1, 5, r3)) (h1 : r1 < 1000) (hb : r3 = 1 ∨ r3 = 4) (hw : am_low st = true) (he : am_ent (am_nL r1) [v1, v2, v3, v4, v5] = l0) (hl : l0.length = am_nL r1)
    (k : am_wp X d r1 0 l0 [] M (fun v M' => am_wp X (d + 1) mid (j + 1) ls (v.toList ++ st) M' Q)) : am_wp X (d + 1) mid j ls (v5 :: v4 :: v3 :: v2 :: v1 :: st) M Q :=
  am_wp_call (vs := [v1, v2, v3, v4, v5]) (rest := st) hc (by
    simp only [am_step]
    rw [am_inv_lt h1, if_pos hb]
    simp [hw]) he hl k
theorem wi_callS6 {v1 v2 v3 v4 v5 v6 : Value} {l0 : List Value} (hc : am_cd mid j = some (.invokestatic ix, p, r1, 6, r3)) (h1 : r1 < 1000) (hb : r3 = 1 ∨ r3 = 4) (hw : am_low st = true) (he : am_ent (am_nL r1) [v1, v2, v3, v4, v5, v6] = l0) (hl : l0.length = am_nL r1)
    (k : am_wp X d r1 0 l0 [] M (fun v M' => am_wp X (d + 1) mid (j + 1) ls (v.toList ++ st) M' Q)) : am_wp X (d + 1) mid j ls (v6 :: v5 :: v4 :: v3 :: v2 :: v1 :: st) M Q :=
  am_wp_call (vs := [v1, v2, v3, v4, v5, v6]) (rest := st) hc (by
    simp only [am_step]
    rw [am_inv_lt h1, if_pos hb]
    simp [hw]) he hl k
theorem wi_callS7 {v1 v2 v3 v4 v5 v6 v7 : Value} {l0 : List Value} (hc : am_cd mid j = some (.invokestatic ix, p, r1, 7, r3)) (h1 : r1 < 1000) (hb : r3 = 1 ∨ r3 = 4) (hw : am_low st = true) (he : am_ent (am_nL r1) [v1, v2, v3, v4, v5, v6, v7] = l0) (hl : l0.length = am_nL r1)
    (k : am_wp X d r1 0 l0 [] M (fun v M' => am_wp X (d + 1) mid (j + 1) ls (v.toList ++ st) M' Q)) : am_wp X (d + 1) mid j ls (v7 :: v6 :: v5 :: v4 :: v3 :: v2 :: v1 :: st) M Q :=
  am_wp_call (vs := [v1, v2, v3, v4, v5, v6, v7]) (rest := st) hc (by
    simp only [am_step]
    rw [am_inv_lt h1, if_pos hb]
    simp [hw]) he hl k
theorem wi_obj (hc : am_cd mid j = some (.invokespecial ix, p, 1000, r2, r3)) (hw : am_low st = true) (k : am_wp X d mid (j + 1) ls (st) M Q) : am_wp X d mid j ls (.ref a :: st) M Q := am_wp_next hc (by simp [am_step, am_inv, hw, am_nx]) k
theorem wi_max (hc : am_cd mid j = some (.invokestatic ix, p, 1001, r2, r3)) (hw : am_low st = true) (k : am_wp X d mid (j + 1) ls (.int (if x < y then y else x) :: st) M Q) : am_wp X d mid j ls (.int y :: .int x :: st) M Q := am_wp_next hc (by simp [am_step, am_inv, hw, am_nx]) k
theorem wi_min (hc : am_cd mid j = some (.invokestatic ix, p, 1002, r2, r3)) (hw : am_low st = true) (k : am_wp X d mid (j + 1) ls (.int (if y < x then y else x) :: st) M Q) : am_wp X d mid j ls (.int y :: .int x :: st) M Q := am_wp_next hc (by simp [am_step, am_inv, hw, am_nx]) k
theorem wi_abs (hc : am_cd mid j = some (.invokestatic ix, p, 1003, r2, r3)) (hw : am_low st = true) (k : am_wp X d mid (j + 1) ls (.int (if 0 ≤ x then x else 0 - x) :: st) M Q) : am_wp X d mid j ls (.int x :: st) M Q := am_wp_next hc (by simp [am_step, am_inv, hw, am_nx]) k
theorem wi_labs (hc : am_cd mid j = some (.invokestatic ix, p, 1004, r2, r3)) (hw : am_low st = true) (k : am_wp X d mid (j + 1) ls (.long (if 0 < lx then lx else -lx) :: st) M Q) : am_wp X d mid j ls (.long lx :: st) M Q := am_wp_next hc (by simp [am_step, am_inv, hw, am_nx]) k
theorem wi_lmax (hc : am_cd mid j = some (.invokestatic ix, p, 1005, r2, r3)) (hw : am_low st = true) (k : am_wp X d mid (j + 1) ls (.long (if ly < lx then lx else ly) :: st) M Q) : am_wp X d mid j ls (.long ly :: .long lx :: st) M Q := am_wp_next hc (by simp [am_step, am_inv, hw, am_nx]) k
theorem wi_slen (hc : am_cd mid j = some (.invokevirtual ix, p, 1006, r2, r3)) (ha : 1000000 ≤ a ∧ a < 1000010) (hw : am_low st = true) (hx : Int32.ofNat (am_sbT.getD (a - 1000000) []).length = x) (k : am_wp X d mid (j + 1) ls (.int x :: st) M Q) : am_wp X d mid j ls (.ref a :: st) M Q := am_wp_next hc (by simp only [am_step, am_inv]; rw [if_pos ⟨ha.1, ha.2, hw⟩, hx]; rfl) k
theorem wi_chat (hc : am_cd mid j = some (.invokevirtual ix, p, 1007, r2, r3)) (ha : 1000000 ≤ a ∧ a < 1000010) (hw : am_low st = true) (hi : am_ix x (am_sbT.getD (a - 1000000) []).length = true) (hx : am_chr (a - 1000000) x.toNatClampNeg = y) (k : am_wp X d mid (j + 1) ls (.int y :: st) M Q) : am_wp X d mid j ls (.int x :: .ref a :: st) M Q := am_wp_next hc (by simp only [am_step, am_inv]; rw [if_pos ⟨ha.1, ha.2, hw, hi⟩, hx]; rfl) k
theorem wi_iret (hc : am_cd mid j = some (.ireturn, p, r1, r2, r3)) (hz : r1 = 0 ∨ x = 0 ∨ x = 1) (hq : Q (some (.int x)) M) : am_wp X d mid j ls [.int x] M Q := am_wp_ret hc (by simp [am_step, am_ret, hz]) hq
theorem wi_lret (hc : am_cd mid j = some (.lreturn, p, r1, r2, r3)) (hq : Q (some (.long lx)) M) : am_wp X d mid j ls [.long lx] M Q := am_wp_ret hc (by simp [am_step, am_ret]) hq
theorem wi_aret (hc : am_cd mid j = some (.areturn, p, r1, r2, r3)) (hq : Q (some (.ref a)) M) : am_wp X d mid j ls [.ref a] M Q := am_wp_ret hc (by simp [am_step, am_ret]) hq
theorem wi_ret (hc : am_cd mid j = some (.return_, p, r1, r2, r3)) (hq : Q none M) : am_wp X d mid j ls [] M Q := am_wp_ret hc (by simp [am_step, am_ret]) hq
theorem wi_tsw {df lo hi : Int} {offs : Array Int} {dt t : Nat} {ts : List Nat} (hc : am_cd mid j = some (.tableswitch df lo hi offs, p, r1, r2, r3)) (hs : am_swT[r1]? = some (dt, ts)) (hx : ¬ (x.toInt < lo ∨ hi < x.toInt)) (ht : ts[(x.toInt - lo).toNat]? = some t) (k : am_wp X d mid t ls st M Q) : am_wp X d mid j ls (.int x :: st) M Q := am_wp_next hc (by simp only [am_step, am_sw, hs]; rw [if_neg hx, ht]; rfl) k
theorem wi_tswD {df lo hi : Int} {offs : Array Int} {dt : Nat} {ts : List Nat} (hc : am_cd mid j = some (.tableswitch df lo hi offs, p, r1, r2, r3)) (hs : am_swT[r1]? = some (dt, ts)) (hx : x.toInt < lo ∨ hi < x.toInt) (k : am_wp X d mid dt ls st M Q) : am_wp X d mid j ls (.int x :: st) M Q := am_wp_next hc (by simp only [am_step, am_sw, hs]; rw [if_pos hx]; rfl) k
end AW2
end
section
/-! ===== a run that doesn't touch the script is the same for every script ===== -/
def am_X0 : Nat × (Nat → Int32) := (5000, fun _ => 0)
theorem am_step_X0 {X : Nat × (Nat → Int32)} {e9 : am_E} {j : Nat} {ls st : List Value} {M : am_M} {r9 : am_Act} (h : am_step am_X0 e9 j ls st M = some r9) : am_step X e9 j ls st M = some r9 := by
  obtain ⟨i9, p0, r1, r2, r3⟩ := e9
  cases i9
  case iaload =>
    simp only [am_step, am_iald] at h ⊢
    split at h
    · split at h
      · rename_i h6
        rw [if_pos h6]
        split at h
        · rename_i h7
          exact absurd h7.2 (by decide)
        · cases h
      · rename_i h6
        rw [if_neg h6]
        exact h
    · cases h
  case arraylength =>
    simp only [am_step, am_alen] at h ⊢
    split at h
    · split at h
      · rename_i h6
        exact absurd h6.2 (by decide)
      · cases h
    · cases h
  all_goals exact h
theorem am_ex_X0 {X : Nat × (Nat → Int32)} : ∀ (n : Nat) {d mid j : Nat} {ls st : List Value} {M : am_M} {r9 : Option Value × am_M}, am_ex am_X0 n d mid j ls st M = some r9 → am_ex X n d mid j ls st M = some r9 := by
  intro n
  induction n with
  | zero => intro d mid j ls st M r9 h; simp [am_ex] at h
  | succ n ih =>
    intro d mid j ls st M r9 h
    simp only [am_ex] at h ⊢
    cases hb : (am_cd mid j).bind (fun e => am_step am_X0 e j ls st M) with
    | none => rw [hb] at h; cases h
    | some a9 =>
      rw [hb] at h
      obtain ⟨e9, hc, hs⟩ := Option.bind_eq_some_iff.mp hb
      have hb2 : (am_cd mid j).bind (fun e => am_step X e j ls st M) = some a9 := by
        rw [hc]
        exact am_step_X0 hs
      rw [hb2]
      match a9, h with
      | .inl q, h => exact ih h
      | .inr (.inr u9), h => exact h
      | .inr (.inl q), h =>
        match d, h with
        | d + 1, h =>
          simp only at h ⊢
          split at h
          · rename_i hl
            rw [if_pos hl]
            cases h1 : am_ex am_X0 n d q.1 0 (am_ent (am_nL q.1) q.2.1) [] M with
            | none => rw [h1] at h; cases h
            | some r1 =>
              rw [h1] at h
              rw [ih h1]
              exact ih h
          · cases h
theorem am_wp_X0 {X : Nat × (Nat → Int32)} {d mid j : Nat} {ls st : List Value} {M : am_M} {Q : Option Value → am_M → Prop} (h : am_wp am_X0 d mid j ls st M Q) : am_wp X d mid j ls st M Q := by
  obtain ⟨n, v, M1, h, hq⟩ := h
  exact ⟨n, v, M1, am_ex_X0 n h, hq⟩
end
section
abbrev am_cl : List vw_C := [(RX0, TX0, 2), (RX1, TX1, 6), (RX2, TX2, 4), (RX3, TX3, 8), (RX4, TX4, 5), (RX5, TX5, 13), (RX6, TX6, 11), (RX7, TX7, 2), (RX8, TX8, 8), (RX9, TX9, 2), (RX10, TX10, 15), (RX11, TX11, 58)]
def am_nm (c : Nat) : String := ([RX0, RX1, RX2, RX3, RX4, RX5, RX6, RX7, RX8, RX9, RX10, RX11, RL] : List String).getD c ""
def am_T (c k : Nat) : String × String × String × Bool := match c with
  | 0 => TX0 k
  | 1 => TX1 k
  | 2 => TX2 k
  | 3 => TX3 k
  | 4 => TX4 k
  | 5 => TX5 k
  | 6 => TX6 k
  | 7 => TX7 k
  | 8 => TX8 k
  | 9 => TX9 k
  | 10 => TX10 k
  | 11 => TX11 k
  | _ => ("", "", "", false)
def am_y (mid : Nat) : MethodName := ((am_mT[mid]?).map Prod.fst).getD yL_law
def am_b (mid : Nat) : ByteArray := ((am_mT[mid]?).map (fun q => q.2.1)).getD cL_law
def am_r (mid : Nat) : Option FieldType := ((am_mT[mid]?).map (fun q => q.2.2.2.1)).getD none
def am_k (mid : Nat) : Nat := ((am_mT[mid]?).map (fun q => q.2.2.2.2)).getD 2000
def am_pn (u : Nat) : MethodName := match u with
  | 1000 => Lib.objectInit
  | 1001 => Lib.Math.max.name
  | 1002 => Lib.Math.min.name
  | 1003 => Lib.Math.abs.name
  | 1004 => Lib.MathLoose.abs_long.x
  | 1005 => Lib.MathLoose.max_long.x
  | 1006 => ⟨"java/lang/String", "length", "()I"⟩
  | _ => ⟨"java/lang/String", "charAt", "(I)C"⟩
/-- the words that the instructions link: (place in lw_tbl, kind, class, entry, what, which) -/
def am_lkT : List (Nat × Nat × Nat × Nat × Nat × Nat) := [(351, 2, 0, 1, 1000, 0), (352, 0, 0, 7, 0, 0), (353, 0, 0, 13, 0, 1), (587, 2, 0, 16, 1004, 0), (590, 1, 0, 22, 4, 0), (325, 2, 1, 3, 1000, 0), (326, 6, 1, 9, 0, 0), (327, 0, 1, 11, 1, 0), (328, 0, 1, 16, 1, 1), (329, 0, 1, 19, 1, 2), (330, 0, 1, 23, 1, 3), (331, 0, 1, 26, 1, 4), (332, 0, 1, 30, 1, 5), (979, 4, 1, 33, 4, 0), (993, 1, 1, 39, 1, 0), (1002, 2, 1, 45, 1005, 0), (1003, 1, 1, 51, 10, 0), (146, 2, 2, 3, 1000, 0), (147, 0, 2, 11, 2, 0), (148, 0, 2, 15, 2, 1), (149, 0, 2, 18, 2, 2), (150, 0, 2, 21, 2, 3), (562, 1, 2, 25, 12, 0), (571, 1, 2, 29, 15, 0), (579, 1, 2, 33, 17, 0), (575, 1, 2, 37, 16, 0), (583, 1, 2, 40, 1, 0), (165, 2, 3, 3, 1000, 0), (166, 3, 3, 9, 8, 0), (168, 0, 3, 11, 3, 0), (169, 0, 3, 17, 3, 1), (170, 0, 3, 21, 3, 2), (171, 0, 3, 24, 3, 3), (172, 0, 3, 27, 3, 4), (173, 0, 3, 30, 3, 5), (174, 0, 3, 34, 3, 6), (175, 0, 3, 37, 3, 7), (601, 1, 3, 41, 87, 0), (608, 1, 3, 49, 102, 0), (609, 1, 3, 55, 103, 0), (614, 1, 3, 58, 22, 0), (618, 1, 3, 62, 23, 0), (623, 1, 3, 66, 94, 0), (622, 1, 3, 69, 93, 0), (217, 2, 4, 3, 1000, 0), (220, 0, 4, 11, 4, 0), (218, 6, 4, 15, 0, 0), (221, 0, 4, 17, 4, 1), (222, 0, 4, 20, 4, 2), (223, 0, 4, 23, 4, 3), (224, 0, 4, 26, 4, 4), (729, 1, 4, 30, 27, 0), (826, 1, 4, 34, 28, 0), (862, 1, 4, 37, 32, 0), (866, 1, 4, 41, 92, 0), (867, 1, 4, 47, 33, 0), (211, 2, 5, 3, 1000, 0), (236, 0, 5, 11, 5, 0), (237, 0, 5, 17, 5, 1), (212, 3, 5, 9, 4, 0), (239, 0, 5, 21, 5, 3), (240, 0, 5, 25, 5, 4), (241, 0, 5, 29, 5, 5), (242, 0, 5, 32, 5, 6), (243, 0, 5, 35, 5, 7), (244, 0, 5, 38, 5, 8), (245, 0, 5, 41, 5, 9), (246, 0, 5, 44, 5, 10), (247, 0, 5, 47, 5, 11), (248, 0, 5, 50, 5, 12), (238, 0, 5, 53, 5, 2), (656, 1, 5, 57, 25, 0), (660, 1, 5, 62, 41, 0), (689, 1, 5, 66, 42, 0), (697, 1, 5, 69, 39, 0), (664, 1, 5, 73, 56, 0), (672, 1, 5, 77, 58, 0), (675, 1, 5, 81, 59, 0), (679, 1, 5, 84, 60, 0), (682, 1, 5, 87, 52, 0), (686, 1, 5, 90, 61, 0), (693, 1, 5, 93, 40, 0), (701, 1, 5, 97, 43, 0), (730, 1, 5, 100, 44, 0), (787, 1, 5, 103, 45, 0), (810, 1, 5, 106, 46, 0), (814, 1, 5, 109, 47, 0), (827, 1, 5, 112, 48, 0), (705, 1, 5, 115, 27, 0), (709, 1, 5, 118, 50, 0), (721, 1, 5, 121, 49, 0), (725, 1, 5, 124, 29, 0), (735, 1, 5, 129, 53, 0), (791, 1, 5, 133, 54, 0), (806, 1, 5, 136, 28, 0), (818, 1, 5, 139, 55, 0), (822, 1, 5, 142, 30, 0), (713, 1, 5, 148, 26, 0), (717, 1, 5, 151, 51, 0), (668, 1, 5, 154, 83, 0), (739, 2, 5, 158, 1006, 0), (749, 2, 5, 163, 1007, 0), (795, 1, 5, 167, 57, 0), (281, 2, 6, 3, 1000, 0), (284, 0, 6, 9, 6, 0), (285, 0, 6, 15, 6, 1), (282, 6, 6, 18, 0, 0), (286, 0, 6, 20, 6, 2), (287, 0, 6, 23, 6, 3), (288, 0, 6, 27, 6, 4), (289, 0, 6, 30, 6, 5), (290, 0, 6, 33, 6, 6), (291, 0, 6, 37, 6, 7), (292, 0, 6, 41, 6, 8), (283, 4, 6, 44, 0, 0), (293, 0, 6, 46, 6, 9), (294, 0, 6, 50, 6, 10), (892, 1, 6, 53, 64, 0), (893, 1, 6, 57, 71, 0), (909, 1, 6, 60, 63, 0), (927, 1, 6, 68, 72, 0), (951, 4, 6, 72, 5, 0), (952, 5, 6, 74, 0, 0), (969, 2, 6, 77, 1001, 0), (970, 4, 6, 83, 1, 0), (931, 1, 6, 85, 76, 0), (942, 2, 6, 88, 1002, 0), (943, 1, 6, 91, 74, 0), (954, 1, 6, 94, 73, 0), (958, 2, 6, 98, 1005, 0), (947, 1, 6, 101, 75, 0), (935, 1, 6, 105, 77, 0), (939, 2, 6, 109, 1003, 0), (198, 2, 7, 3, 1000, 0), (199, 0, 7, 11, 7, 0), (200, 0, 7, 15, 7, 1), (101, 2, 8, 3, 1000, 0), (102, 0, 8, 9, 8, 0), (103, 0, 8, 15, 8, 1), (104, 0, 8, 18, 8, 2), (105, 0, 8, 21, 8, 3), (106, 0, 8, 24, 8, 4), (107, 0, 8, 27, 8, 5), (108, 0, 8, 30, 8, 6), (109, 0, 8, 33, 8, 7), (605, 1, 8, 36, 85, 0), (606, 1, 8, 40, 86, 0), (513, 1, 8, 43, 94, 0), (458, 1, 8, 47, 93, 0), (462, 2, 8, 51, 1001, 0), (517, 1, 8, 57, 95, 0), (528, 1, 8, 61, 96, 0), (532, 1, 8, 64, 97, 0), (536, 1, 8, 68, 98, 0), (541, 1, 8, 72, 99, 0), (545, 2, 8, 75, 1002, 0), (132, 2, 9, 3, 1000, 0), (133, 0, 9, 9, 9, 0), (134, 0, 9, 15, 9, 1), (92, 2, 10, 1, 1000, 0), (95, 3, 10, 9, 8, 0), (361, 0, 10, 11, 10, 0), (362, 0, 10, 16, 10, 1), (127, 3, 10, 20, 9, 0), (363, 0, 10, 23, 10, 2), (364, 0, 10, 27, 10, 3), (141, 3, 10, 30, 2, 0), (365, 0, 10, 33, 10, 4), (160, 3, 10, 37, 3, 0), (162, 1, 10, 39, 18, 0), (366, 0, 10, 40, 10, 5), (193, 3, 10, 44, 7, 0), (367, 0, 10, 47, 10, 6), (206, 3, 10, 51, 5, 0), (208, 1, 10, 53, 34, 0), (368, 0, 10, 56, 10, 7), (276, 3, 10, 60, 6, 0), (278, 1, 10, 62, 62, 0), (369, 0, 10, 63, 10, 8), (320, 3, 10, 67, 1, 0), (370, 0, 10, 70, 10, 9), (346, 3, 10, 74, 0, 0), (371, 0, 10, 77, 10, 10), (359, 3, 10, 81, 4, 0), (372, 0, 10, 84, 10, 11), (373, 0, 10, 88, 10, 12), (374, 0, 10, 92, 10, 13), (375, 0, 10, 95, 10, 14), (415, 1, 10, 98, 134, 0), (419, 1, 10, 102, 133, 0), (427, 1, 10, 105, 137, 0), (431, 1, 10, 109, 136, 0), (435, 1, 10, 112, 139, 0), (438, 1, 10, 116, 85, 0), (442, 1, 10, 120, 86, 0), (446, 1, 10, 123, 135, 0), (454, 1, 10, 127, 92, 0), (469, 1, 10, 130, 138, 0), (472, 1, 10, 133, 101, 0), (481, 1, 10, 136, 88, 0), (489, 1, 10, 140, 89, 0), (493, 1, 10, 144, 90, 0), (501, 1, 10, 147, 102, 0), (505, 1, 10, 150, 103, 0), (509, 1, 10, 153, 91, 0), (554, 1, 10, 157, 12, 0), (558, 1, 10, 160, 13, 0), (567, 1, 10, 163, 14, 0), (597, 1, 10, 167, 19, 0), (610, 1, 10, 171, 20, 0), (628, 1, 10, 175, 21, 0), (636, 1, 10, 178, 79, 0), (640, 1, 10, 181, 80, 0), (644, 1, 10, 184, 81, 0), (652, 1, 10, 187, 38, 0), (832, 1, 10, 190, 82, 0), (836, 1, 10, 193, 37, 0), (840, 1, 10, 197, 26, 0), (846, 1, 10, 200, 35, 0), (850, 1, 10, 203, 36, 0), (858, 1, 10, 206, 31, 0), (874, 1, 10, 210, 87, 0), (875, 1, 10, 214, 94, 0), (880, 1, 10, 218, 64, 0), (884, 1, 10, 219, 65, 0), (888, 1, 10, 222, 66, 0), (901, 1, 10, 225, 63, 0), (905, 1, 10, 228, 67, 0), (915, 1, 10, 231, 68, 0), (923, 1, 10, 234, 69, 0), (965, 1, 10, 237, 70, 0), (975, 1, 10, 240, 6, 0), (980, 1, 10, 241, 7, 0), (989, 1, 10, 242, 8, 0), (998, 1, 10, 246, 9, 0), (1011, 1, 10, 250, 2, 0), (1019, 1, 10, 254, 3, 0), (524, 2, 10, 257, 1002, 0), (527, 2, 10, 262, 1001, 0), (1028, 2, 11, 1, 1000, 0), (1032, 0, 11, 7, 11, 3), (1035, 0, 11, 13, 11, 6), (1036, 0, 11, 17, 11, 7), (1037, 0, 11, 20, 11, 8), (1038, 0, 11, 23, 11, 9), (1039, 0, 11, 26, 11, 10), (1040, 0, 11, 29, 11, 11), (1041, 0, 11, 32, 11, 12), (1042, 0, 11, 35, 11, 13), (1044, 0, 11, 38, 11, 15), (1045, 0, 11, 41, 11, 16), (1046, 0, 11, 44, 11, 17), (1047, 0, 11, 47, 11, 18), (1048, 0, 11, 50, 11, 19), (1051, 0, 11, 53, 11, 22), (1052, 0, 11, 57, 11, 23), (1053, 0, 11, 60, 11, 24), (1054, 0, 11, 63, 11, 25), (1055, 0, 11, 66, 11, 26), (1056, 0, 11, 69, 11, 27), (1057, 0, 11, 72, 11, 28), (1058, 0, 11, 75, 11, 29), (1060, 0, 11, 78, 11, 31), (1061, 0, 11, 81, 11, 32), (1062, 0, 11, 84, 11, 33), (1063, 0, 11, 87, 11, 34), (1066, 0, 11, 91, 11, 37), (1067, 0, 11, 94, 11, 38), (1078, 0, 11, 97, 11, 49), (1079, 0, 11, 100, 11, 50), (1080, 0, 11, 103, 11, 51), (1081, 0, 11, 106, 11, 52), (1082, 0, 11, 109, 11, 53), (1083, 0, 11, 112, 11, 54), (1084, 0, 11, 115, 11, 55), (1085, 0, 11, 118, 11, 56), (1086, 0, 11, 121, 11, 57), (1030, 0, 11, 125, 11, 1), (1029, 0, 11, 128, 11, 0), (1033, 0, 11, 131, 11, 4), (1212, 1, 11, 134, 143, 0), (1220, 1, 11, 138, 145, 0), (1224, 1, 11, 142, 144, 0), (1228, 1, 11, 145, 147, 0), (1243, 2, 11, 149, 1001, 0), (1235, 1, 11, 155, 150, 0), (1239, 1, 11, 159, 151, 0), (1274, 2, 11, 163, 1002, 0), (1271, 1, 11, 166, 153, 0), (1267, 1, 11, 169, 154, 0), (1248, 1, 11, 173, 146, 0), (1034, 0, 11, 176, 11, 5), (1263, 1, 11, 179, 155, 0), (1043, 0, 11, 183, 11, 14), (1302, 2, 11, 186, 1004, 0), (1299, 1, 11, 190, 164, 0), (1031, 0, 11, 194, 11, 2), (1287, 1, 11, 197, 162, 0), (1291, 1, 11, 200, 163, 0), (1295, 1, 11, 203, 165, 0), (1049, 0, 11, 207, 11, 20), (1065, 0, 11, 210, 11, 36), (1072, 0, 11, 213, 11, 43), (1071, 0, 11, 216, 11, 42), (1327, 1, 11, 219, 169, 0), (1070, 0, 11, 222, 11, 41), (1331, 1, 11, 225, 170, 0), (1075, 0, 11, 228, 11, 46), (1334, 4, 11, 231, 2, 0), (1335, 4, 11, 233, 3, 0), (1336, 4, 11, 235, 0, 0), (1074, 0, 11, 237, 11, 45), (1337, 1, 11, 240, 171, 0), (1073, 0, 11, 243, 11, 44), (1068, 0, 11, 246, 11, 39), (1069, 0, 11, 249, 11, 40), (1348, 1, 11, 252, 176, 0), (1352, 1, 11, 255, 173, 0), (1355, 1, 11, 259, 174, 0), (1363, 1, 11, 263, 178, 0), (1344, 1, 11, 266, 177, 0), (1077, 0, 11, 269, 11, 48), (1323, 1, 11, 272, 172, 0), (1367, 1, 11, 275, 175, 0), (1359, 1, 11, 278, 179, 0), (1064, 0, 11, 281, 11, 35), (1315, 1, 11, 284, 182, 0), (1340, 1, 11, 287, 180, 0), (1076, 0, 11, 290, 11, 47), (1379, 1, 11, 293, 185, 0), (1050, 0, 11, 296, 11, 21), (1395, 1, 11, 299, 188, 0), (1415, 1, 11, 302, 192, 0), (1411, 1, 11, 305, 193, 0), (1407, 1, 11, 308, 194, 0), (1059, 0, 11, 311, 11, 30), (1431, 1, 11, 314, 198, 0), (1435, 1, 11, 317, 199, 0), (87, 3, 12, 7, 10, 0), (89, 1, 12, 9, 104, 0), (1023, 3, 12, 10, 11, 0), (1025, 1, 12, 12, 141, 0), (407, 1, 12, 13, 105, 0), (1204, 1, 12, 17, 142, 0), (411, 1, 12, 18, 106, 0), (1208, 1, 12, 21, 148, 0), (423, 1, 12, 22, 107, 0), (1216, 1, 12, 26, 149, 0), (450, 1, 12, 27, 108, 0), (1231, 1, 12, 31, 152, 0), (465, 1, 12, 32, 109, 0), (1244, 1, 12, 36, 156, 0), (477, 1, 12, 37, 110, 0), (1251, 1, 12, 41, 157, 0), (485, 1, 12, 42, 111, 0), (1255, 1, 12, 45, 158, 0), (497, 1, 12, 46, 112, 0), (1259, 1, 12, 49, 159, 0), (546, 1, 12, 50, 113, 0), (1275, 1, 12, 53, 160, 0), (550, 1, 12, 54, 114, 0), (1279, 1, 12, 58, 161, 0), (563, 1, 12, 59, 115, 0), (1283, 1, 12, 62, 166, 0), (593, 1, 12, 63, 116, 0), (1303, 1, 12, 67, 167, 0), (624, 1, 12, 68, 117, 0), (1307, 1, 12, 72, 168, 0), (632, 1, 12, 73, 118, 0), (1311, 1, 12, 77, 181, 0), (648, 1, 12, 78, 119, 0), (1319, 1, 12, 81, 183, 0), (842, 1, 12, 82, 120, 0), (1371, 1, 12, 85, 184, 0), (854, 1, 12, 86, 121, 0), (1375, 1, 12, 89, 186, 0), (870, 1, 12, 90, 122, 0), (1383, 1, 12, 94, 187, 0), (876, 1, 12, 95, 123, 0), (1387, 1, 12, 98, 189, 0), (897, 1, 12, 99, 124, 0), (1391, 1, 12, 102, 190, 0), (911, 1, 12, 103, 125, 0), (1399, 1, 12, 106, 191, 0), (919, 1, 12, 107, 126, 0), (1403, 1, 12, 110, 195, 0), (961, 1, 12, 111, 127, 0), (1419, 1, 12, 114, 196, 0), (971, 1, 12, 115, 128, 0), (1423, 1, 12, 118, 197, 0), (985, 1, 12, 119, 129, 0), (1427, 1, 12, 123, 200, 0), (994, 1, 12, 124, 130, 0), (1439, 1, 12, 127, 201, 0), (1007, 1, 12, 128, 131, 0), (1443, 1, 12, 132, 202, 0), (1015, 1, 12, 133, 132, 0), (1447, 1, 12, 136, 203, 0)]
def am_lkw (t c ix u v : Nat) : Cond := match t with
  | 0 => .fieldLink (am_nm c) ix (am_T u v).1 (am_T u v).2.1 (am_T u v).2.2.1
  | 1 => .methodLink (am_nm c) ix (am_y u)
  | 2 => .methodLink (am_nm c) ix (am_pn u)
  | 3 => .classLink (am_nm c) ix (am_nm u)
  | 4 => .constantLong (am_nm c) ix (am_lcT.getD u 0)
  | 6 => .classLink (am_nm c) ix "[[I"
  | _ => .fieldLink (am_nm c) ix "PitchSquare$Season" "ORDERS" "[I"
def am_neT : List (Nat × Nat × Nat) := [(1, 35, 139), (3, 40, 84), (3, 45, 140), (5, 20, 24), (5, 187, 139), (6, 64, 139), (8, 78, 140), (8, 81, 139), (9, 18, 138), (10, 15, 84), (10, 22, 100), (10, 32, 11), (10, 46, 78), (10, 69, 5), (10, 76, 0), (10, 83, 24)]
/-- of each method: how it is called (0 by its object, 1 static, 2 a constructor), and the places of its words: code, initialized, instanceMethod or static, selects -/
def am_ywT : List (Nat × Nat × Nat × Nat × Nat) := [(2, 350, 80, 349, 0), (0, 586, 80, 584, 585), (0, 1014, 80, 1012, 1013), (0, 1022, 80, 1020, 1021), (1, 592, 80, 591, 0), (2, 324, 79, 323, 0), (0, 978, 79, 976, 977), (0, 983, 79, 981, 982), (0, 992, 79, 990, 991), (0, 1001, 79, 999, 1000), (0, 1006, 79, 1005, 41), (2, 145, 73, 144, 0), (0, 557, 73, 555, 556), (0, 561, 73, 559, 560), (0, 570, 73, 568, 569), (0, 574, 73, 573, 10), (0, 578, 73, 577, 11), (0, 582, 73, 581, 12), (2, 164, 74, 163, 0), (0, 600, 74, 598, 599), (0, 613, 74, 611, 612), (0, 631, 74, 629, 630), (0, 617, 74, 616, 13), (0, 621, 74, 620, 14), (2, 216, 77, 215, 0), (0, 659, 77, 657, 658), (0, 716, 77, 714, 715), (0, 708, 77, 706, 707), (0, 809, 77, 807, 808), (0, 728, 77, 726, 727), (0, 825, 77, 823, 824), (0, 861, 77, 859, 860), (0, 865, 77, 864, 33), (1, 869, 77, 868, 0), (2, 210, 76, 209, 0), (0, 849, 76, 847, 848), (0, 853, 76, 851, 852), (0, 839, 76, 837, 838), (0, 655, 76, 653, 654), (0, 700, 76, 699, 20), (0, 696, 76, 695, 19), (0, 663, 76, 662, 15), (0, 692, 76, 691, 18), (0, 704, 76, 703, 21), (0, 733, 76, 732, 25), (0, 790, 76, 789, 27), (0, 813, 76, 812, 29), (0, 817, 76, 816, 30), (0, 830, 76, 829, 32), (0, 724, 76, 723, 24), (0, 712, 76, 711, 22), (0, 720, 76, 719, 23), (0, 685, 76, 684, 17), (0, 738, 76, 737, 26), (0, 794, 76, 793, 28), (0, 821, 76, 820, 31), (0, 667, 76, 666, 16), (1, 797, 76, 796, 0), (1, 674, 76, 673, 0), (1, 677, 76, 676, 0), (1, 681, 76, 680, 0), (1, 688, 76, 687, 0), (2, 280, 78, 279, 0), (0, 904, 78, 902, 903), (0, 883, 78, 881, 882), (0, 887, 78, 885, 886), (0, 891, 78, 889, 890), (0, 908, 78, 906, 907), (0, 918, 78, 916, 917), (0, 926, 78, 924, 925), (0, 968, 78, 966, 967), (0, 896, 78, 895, 34), (0, 930, 78, 929, 35), (0, 957, 78, 956, 40), (0, 946, 78, 945, 38), (0, 950, 78, 949, 39), (0, 934, 78, 933, 36), (0, 938, 78, 937, 37), (2, 197, 75, 196, 0), (0, 639, 75, 637, 638), (0, 643, 75, 641, 642), (0, 647, 75, 645, 646), (0, 835, 75, 833, 834), (0, 671, 75, 669, 670), (2, 100, 71, 99, 0), (0, 441, 71, 439, 440), (0, 445, 71, 443, 444), (0, 604, 71, 602, 603), (0, 484, 71, 482, 483), (0, 492, 71, 490, 491), (0, 496, 71, 494, 495), (0, 512, 71, 510, 511), (0, 457, 71, 455, 456), (0, 461, 71, 459, 460), (0, 516, 71, 514, 515), (0, 520, 71, 519, 5), (0, 531, 71, 530, 6), (0, 535, 71, 534, 7), (0, 539, 71, 538, 8), (0, 544, 71, 543, 9), (2, 131, 72, 130, 0), (0, 475, 72, 473, 474), (0, 504, 72, 502, 503), (0, 508, 72, 506, 507), (2, 91, 70, 90, 0), (0, 410, 70, 408, 409), (0, 414, 70, 412, 413), (0, 426, 70, 424, 425), (0, 453, 70, 451, 452), (0, 468, 70, 466, 467), (0, 480, 70, 478, 479), (0, 488, 70, 486, 487), (0, 500, 70, 498, 499), (0, 549, 70, 547, 548), (0, 553, 70, 551, 552), (0, 566, 70, 564, 565), (0, 596, 70, 594, 595), (0, 627, 70, 625, 626), (0, 635, 70, 633, 634), (0, 651, 70, 649, 650), (0, 845, 70, 843, 844), (0, 857, 70, 855, 856), (0, 873, 70, 871, 872), (0, 879, 70, 877, 878), (0, 900, 70, 898, 899), (0, 914, 70, 912, 913), (0, 922, 70, 920, 921), (0, 964, 70, 962, 963), (0, 974, 70, 972, 973), (0, 988, 70, 986, 987), (0, 997, 70, 995, 996), (0, 1010, 70, 1008, 1009), (0, 1018, 70, 1016, 1017), (0, 422, 70, 421, 1), (0, 418, 70, 417, 0), (0, 449, 70, 448, 4), (0, 434, 70, 433, 3), (0, 430, 70, 429, 2), (1, 471, 70, 470, 0), (1, 437, 70, 436, 0), (1, 523, 70, 522, 0), (2, 1027, 81, 1026, 0), (0, 1207, 81, 1205, 1206), (0, 1215, 81, 1214, 42), (0, 1227, 81, 1226, 44), (0, 1223, 81, 1222, 43), (1, 1250, 81, 1249, 0), (1, 1230, 81, 1229, 0), (0, 1211, 81, 1209, 1210), (0, 1219, 81, 1217, 1218), (0, 1238, 81, 1237, 45), (0, 1242, 81, 1241, 46), (0, 1234, 81, 1232, 1233), (1, 1273, 81, 1272, 0), (0, 1270, 81, 1269, 48), (0, 1266, 81, 1265, 47), (0, 1247, 81, 1245, 1246), (0, 1254, 81, 1252, 1253), (0, 1258, 81, 1256, 1257), (0, 1262, 81, 1260, 1261), (0, 1278, 81, 1276, 1277), (0, 1282, 81, 1280, 1281), (0, 1290, 81, 1289, 49), (0, 1294, 81, 1293, 50), (1, 1301, 81, 1300, 0), (0, 1298, 81, 1297, 51), (0, 1286, 81, 1284, 1285), (0, 1306, 81, 1304, 1305), (0, 1310, 81, 1308, 1309), (0, 1330, 81, 1329, 54), (1, 1333, 81, 1332, 0), (1, 1339, 81, 1338, 0), (0, 1326, 81, 1325, 53), (1, 1354, 81, 1353, 0), (0, 1358, 81, 1357, 58), (0, 1370, 81, 1369, 61), (0, 1351, 81, 1350, 57), (0, 1347, 81, 1346, 56), (0, 1366, 81, 1365, 60), (0, 1362, 81, 1361, 59), (0, 1343, 81, 1342, 55), (0, 1314, 81, 1312, 1313), (0, 1318, 81, 1317, 52), (0, 1322, 81, 1320, 1321), (0, 1374, 81, 1372, 1373), (0, 1382, 81, 1381, 62), (0, 1378, 81, 1376, 1377), (0, 1386, 81, 1384, 1385), (0, 1398, 81, 1397, 63), (0, 1390, 81, 1388, 1389), (0, 1394, 81, 1392, 1393), (0, 1402, 81, 1400, 1401), (0, 1418, 81, 1417, 66), (0, 1414, 81, 1413, 65), (0, 1410, 81, 1409, 64), (0, 1406, 81, 1404, 1405), (0, 1422, 81, 1420, 1421), (0, 1426, 81, 1424, 1425), (0, 1434, 81, 1433, 67), (0, 1438, 81, 1437, 68), (0, 1430, 81, 1428, 1429), (0, 1442, 81, 1440, 1441), (0, 1446, 81, 1444, 1445), (0, 1450, 81, 1448, 1449)]
def am_ywok (mid : Nat) : Bool := match am_ywT[mid]? with
  | none => false
  | some (t, h1, h2, h3, h4) => decide (lw_tbl[h2]? = some (.initialized (am_y mid).cls)) && (decide ((am_y mid).cls = am_nm (am_k mid)) && (match t with
    | 1 => decide (lw_tbl[h3]? = some (.static (am_y mid)))
    | 2 => decide (lw_tbl[h3]? = some (.instanceMethod (am_y mid))) && decide ((am_y mid).name = "<init>" ∧ am_r mid = none)
    | 0 => decide (lw_tbl[h3]? = some (.instanceMethod (am_y mid))) && decide (lw_tbl[h4]? = some (.selects (am_y mid).cls (am_y mid) (am_y mid)))
    | _ => true))
set_option maxRecDepth 100000 in
theorem am_lk_ok : am_lkT.all (fun q => decide (lw_tbl[q.1]? = some (am_lkw q.2.1 q.2.2.1 q.2.2.2.1 q.2.2.2.2.1 q.2.2.2.2.2) ∧ goodWord (am_lkw q.2.1 q.2.2.1 q.2.2.2.1 q.2.2.2.2.1 q.2.2.2.2.2) = true)) = true := by decide +kernel
set_option maxRecDepth 100000 in
theorem am_yw_ok : (List.range 204).all am_ywok = true := by decide +kernel
def am_clh : List (Nat × Nat × List Nat) := [(347, 80, [354, 356]), (321, 79, [333, 335, 337, 339, 341, 343]), (142, 73, [151, 153, 155, 157]), (161, 74, [176, 178, 180, 182, 184, 186, 188, 190]), (213, 77, [225, 227, 229, 231, 233]), (207, 76, [249, 251, 253, 255, 257, 259, 261, 263, 265, 267, 269, 271, 273]), (277, 78, [295, 297, 299, 301, 303, 305, 307, 309, 311, 313, 315]), (194, 75, [201, 203]), (97, 71, [110, 112, 114, 116, 118, 120, 122, 124]), (128, 72, [135, 137]), (88, 70, [376, 378, 380, 382, 384, 386, 388, 390, 392, 394, 396, 398, 400, 402, 404]), (1024, 81, [1087, 1089, 1091, 1093, 1095, 1097, 1099, 1101, 1103, 1105, 1107, 1109, 1111, 1113, 1115, 1117, 1119, 1121, 1123, 1125, 1127, 1129, 1131, 1133, 1135, 1137, 1139, 1141, 1143, 1145, 1147, 1149, 1151, 1153, 1155, 1157, 1159, 1161, 1163, 1165, 1167, 1169, 1171, 1173, 1175, 1177, 1179, 1181, 1183, 1185, 1187, 1189, 1191, 1193, 1195, 1197, 1199, 1201])]
def am_clok (c : Nat) : Bool := match am_clh[c]?, am_cl[c]? with
  | some (h1, h2, hs), some (C, T, N) => decide (C = am_nm c) && (decide (lw_tbl[h1]? = some (.instantiable C N)) && (decide (lw_tbl[h2]? = some (.initialized C)) && (decide ((am_ftT.getD c []).length = N ∧ hs.length = N) && (List.range N).all (fun k => decide (lw_tbl[hs.getD k 0]? = some (u_lay C T k)) && decide (T k = am_T c k ∧ (T k).1 = C)))))
  | _, _ => false
set_option maxRecDepth 100000 in
theorem am_cl_ok : (List.range 12).all am_clok = true := by decide +kernel
def am_wh : List (Nat × Cond) := [(82, .initialized "java/lang/Math"), (463, .static (am_pn 1001)), (525, .static (am_pn 1002)), (940, .static (am_pn 1003)), (588, .static (am_pn 1004)), (959, .static (am_pn 1005)), (464, .code Lib.Math.max.name Lib.Math.max.code 2 (some .int)), (526, .code Lib.Math.min.name Lib.Math.min.code 2 (some .int)), (941, .code Lib.Math.abs.name Lib.Math.abs.code 1 (some .int)), (589, .code Lib.MathLoose.abs_long.x Lib.MathLoose.abs_long.code 2 (some .long)), (960, .code Lib.MathLoose.max_long.x Lib.MathLoose.max_long.code 4 (some .long)), (93, .instanceMethod Lib.objectInit), (94, .code Lib.objectInit ⟨#[0xb1]⟩ 1 none), (140, .arrayClass .int), (841, .arrayClass .byte), (318, .arrayClass .boolean), (319, .arrayClass .long)]
set_option maxRecDepth 100000 in
theorem am_wh_ok : am_wh.all (fun q => decide (lw_tbl[q.1]? = some q.2)) = true := by decide +kernel
end
section
set_option maxRecDepth 100000 in
theorem am_yc0 : lw_tbl[350]? = some (.code yX0_init cX0_init 1 none) := rfl
set_option maxRecDepth 100000 in
theorem am_yc1 : lw_tbl[586]? = some (.code yX0_become cX0_become 7 none) := rfl
set_option maxRecDepth 100000 in
theorem am_yc2 : lw_tbl[1014]? = some (.code yX0_upperNumber cX0_upperNumber 1 (some .long)) := rfl
set_option maxRecDepth 100000 in
theorem am_yc3 : lw_tbl[1022]? = some (.code yX0_lowerNumber cX0_lowerNumber 1 (some .long)) := rfl
set_option maxRecDepth 100000 in
theorem am_yc4 : lw_tbl[592]? = some (.code yX0_commonDivisor cX0_commonDivisor 11 (some .long)) := rfl
set_option maxRecDepth 100000 in
theorem am_yc5 : lw_tbl[324]? = some (.code yX1_init cX1_init 1 none) := rfl
set_option maxRecDepth 100000 in
theorem am_yc6 : lw_tbl[978]? = some (.code yX1_isFull cX1_isFull 1 (some .boolean)) := rfl
set_option maxRecDepth 100000 in
theorem am_yc7 : lw_tbl[983]? = some (.code yX1_add cX1_add 4 none) := rfl
set_option maxRecDepth 100000 in
theorem am_yc8 : lw_tbl[992]? = some (.code yX1_partInto cX1_partInto 5 none) := rfl
set_option maxRecDepth 100000 in
theorem am_yc9 : lw_tbl[1001]? = some (.code yX1_fairInto cX1_fairInto 10 (some .boolean)) := rfl
set_option maxRecDepth 100000 in
theorem am_yc10 : lw_tbl[1006]? = some (.code yX1_partsOver cX1_partsOver 9 (some .long)) := rfl
set_option maxRecDepth 100000 in
theorem am_yc11 : lw_tbl[145]? = some (.code yX2_init cX2_init 1 none) := rfl
set_option maxRecDepth 100000 in
theorem am_yc12 : lw_tbl[557]? = some (.code yX2_isFull cX2_isFull 1 (some .boolean)) := rfl
set_option maxRecDepth 100000 in
theorem am_yc13 : lw_tbl[561]? = some (.code yX2_add cX2_add 4 none) := rfl
set_option maxRecDepth 100000 in
theorem am_yc14 : lw_tbl[570]? = some (.code yX2_readInto cX2_readInto 14 (some .boolean)) := rfl
set_option maxRecDepth 100000 in
theorem am_yc15 : lw_tbl[574]? = some (.code yX2_nearest cX2_nearest 6 (some .int)) := rfl
set_option maxRecDepth 100000 in
theorem am_yc16 : lw_tbl[578]? = some (.code yX2_manyOf cX2_manyOf 6 (some .long)) := rfl
set_option maxRecDepth 100000 in
theorem am_yc17 : lw_tbl[582]? = some (.code yX2_sumOf cX2_sumOf 6 (some .long)) := rfl
set_option maxRecDepth 100000 in
theorem am_yc18 : lw_tbl[164]? = some (.code yX3_init cX3_init 2 none) := rfl
set_option maxRecDepth 100000 in
theorem am_yc19 : lw_tbl[600]? = some (.code yX3_beginWith cX3_beginWith 6 none) := rfl
set_option maxRecDepth 100000 in
theorem am_yc20 : lw_tbl[613]? = some (.code yX3_bestBounce cX3_bestBounce 3 (some .int)) := rfl
set_option maxRecDepth 100000 in
theorem am_yc21 : lw_tbl[631]? = some (.code yX3_worksOn cX3_worksOn 2 (some .int)) := rfl
set_option maxRecDepth 100000 in
theorem am_yc22 : lw_tbl[617]? = some (.code yX3_tryFrom cX3_tryFrom 8 none) := rfl
set_option maxRecDepth 100000 in
theorem am_yc23 : lw_tbl[621]? = some (.code yX3_weigh cX3_weigh 4 none) := rfl
set_option maxRecDepth 100000 in
theorem am_yc24 : lw_tbl[216]? = some (.code yX4_init cX4_init 1 none) := rfl
set_option maxRecDepth 100000 in
theorem am_yc25 : lw_tbl[659]? = some (.code yX4_clear cX4_clear 1 none) := rfl
set_option maxRecDepth 100000 in
theorem am_yc26 : lw_tbl[716]? = some (.code yX4_ruleCount cX4_ruleCount 1 (some .int)) := rfl
set_option maxRecDepth 100000 in
theorem am_yc27 : lw_tbl[708]? = some (.code yX4_isFull cX4_isFull 1 (some .boolean)) := rfl
set_option maxRecDepth 100000 in
theorem am_yc28 : lw_tbl[809]? = some (.code yX4_isLatestRuleFull cX4_isLatestRuleFull 1 (some .boolean)) := rfl
set_option maxRecDepth 100000 in
theorem am_yc29 : lw_tbl[728]? = some (.code yX4_addRule cX4_addRule 1 none) := rfl
set_option maxRecDepth 100000 in
theorem am_yc30 : lw_tbl[825]? = some (.code yX4_addTest cX4_addTest 6 none) := rfl
set_option maxRecDepth 100000 in
theorem am_yc31 : lw_tbl[861]? = some (.code yX4_ruleFor cX4_ruleFor 4 (some .int)) := rfl
set_option maxRecDepth 100000 in
theorem am_yc32 : lw_tbl[865]? = some (.code yX4_allHold cX4_allHold 7 (some .boolean)) := rfl
set_option maxRecDepth 100000 in
theorem am_yc33 : lw_tbl[869]? = some (.code yX4_holds cX4_holds 3 (some .boolean)) := rfl
set_option maxRecDepth 100000 in
theorem am_yc34 : lw_tbl[210]? = some (.code yX5_init cX5_init 2 none) := rfl
set_option maxRecDepth 100000 in
theorem am_yc35 : lw_tbl[849]? = some (.code yX5_faultKind cX5_faultKind 1 (some .int)) := rfl
set_option maxRecDepth 100000 in
theorem am_yc36 : lw_tbl[853]? = some (.code yX5_faultPlace cX5_faultPlace 1 (some .int)) := rfl
set_option maxRecDepth 100000 in
theorem am_yc37 : lw_tbl[839]? = some (.code yX5_exchangeBook cX5_exchangeBook 3 (some (.object "PitchSquare$RuleBook"))) := rfl
set_option maxRecDepth 100000 in
theorem am_yc38 : lw_tbl[655]? = some (.code yX5_readAll cX5_readAll 3 (some .boolean)) := rfl
set_option maxRecDepth 100000 in
theorem am_yc39 : lw_tbl[700]? = some (.code yX5_blame cX5_blame 3 none) := rfl
set_option maxRecDepth 100000 in
theorem am_yc40 : lw_tbl[696]? = some (.code yX5_blameToken cX5_blameToken 2 none) := rfl
set_option maxRecDepth 100000 in
theorem am_yc41 : lw_tbl[663]? = some (.code yX5_nextToken cX5_nextToken 2 (some .boolean)) := rfl
set_option maxRecDepth 100000 in
theorem am_yc42 : lw_tbl[692]? = some (.code yX5_takeToken cX5_takeToken 1 none) := rfl
set_option maxRecDepth 100000 in
theorem am_yc43 : lw_tbl[704]? = some (.code yX5_takeName cX5_takeName 1 none) := rfl
set_option maxRecDepth 100000 in
theorem am_yc44 : lw_tbl[733]? = some (.code yX5_takeWhen cX5_takeWhen 1 none) := rfl
set_option maxRecDepth 100000 in
theorem am_yc45 : lw_tbl[790]? = some (.code yX5_takeWhat cX5_takeWhat 2 none) := rfl
set_option maxRecDepth 100000 in
theorem am_yc46 : lw_tbl[813]? = some (.code yX5_takeCompares cX5_takeCompares 1 none) := rfl
set_option maxRecDepth 100000 in
theorem am_yc47 : lw_tbl[817]? = some (.code yX5_takeNumber cX5_takeNumber 1 none) := rfl
set_option maxRecDepth 100000 in
theorem am_yc48 : lw_tbl[830]? = some (.code yX5_takeEnd cX5_takeEnd 1 none) := rfl
set_option maxRecDepth 100000 in
theorem am_yc49 : lw_tbl[724]? = some (.code yX5_keepName cX5_keepName 2 none) := rfl
set_option maxRecDepth 100000 in
theorem am_yc50 : lw_tbl[712]? = some (.code yX5_isNameKnown cX5_isNameKnown 2 (some .boolean)) := rfl
set_option maxRecDepth 100000 in
theorem am_yc51 : lw_tbl[720]? = some (.code yX5_isSameText cX5_isSameText 3 (some .boolean)) := rfl
set_option maxRecDepth 100000 in
theorem am_yc52 : lw_tbl[685]? = some (.code yX5_tokenLength cX5_tokenLength 1 (some .int)) := rfl
set_option maxRecDepth 100000 in
theorem am_yc53 : lw_tbl[738]? = some (.code yX5_tokenIs cX5_tokenIs 3 (some .boolean)) := rfl
set_option maxRecDepth 100000 in
theorem am_yc54 : lw_tbl[794]? = some (.code yX5_tokenWhat cX5_tokenWhat 2 (some .int)) := rfl
set_option maxRecDepth 100000 in
theorem am_yc55 : lw_tbl[821]? = some (.code yX5_tokenNumber cX5_tokenNumber 3 (some .int)) := rfl
set_option maxRecDepth 100000 in
theorem am_yc56 : lw_tbl[667]? = some (.code yX5_byteHere cX5_byteHere 1 (some .int)) := rfl
set_option maxRecDepth 100000 in
theorem am_yc57 : lw_tbl[797]? = some (.code yX5_wordFor cX5_wordFor 1 (some (.object "java/lang/String"))) := rfl
set_option maxRecDepth 100000 in
theorem am_yc58 : lw_tbl[674]? = some (.code yX5_isBlank cX5_isBlank 1 (some .boolean)) := rfl
set_option maxRecDepth 100000 in
theorem am_yc59 : lw_tbl[677]? = some (.code yX5_isLetter cX5_isLetter 1 (some .boolean)) := rfl
set_option maxRecDepth 100000 in
theorem am_yc60 : lw_tbl[681]? = some (.code yX5_isDigit cX5_isDigit 1 (some .boolean)) := rfl
set_option maxRecDepth 100000 in
theorem am_yc61 : lw_tbl[688]? = some (.code yX5_isSign cX5_isSign 1 (some .boolean)) := rfl
set_option maxRecDepth 100000 in
theorem am_yc62 : lw_tbl[280]? = some (.code yX6_init cX6_init 3 none) := rfl
set_option maxRecDepth 100000 in
theorem am_yc63 : lw_tbl[904]? = some (.code yX6_hasMatch cX6_hasMatch 2 (some .boolean)) := rfl
set_option maxRecDepth 100000 in
theorem am_yc64 : lw_tbl[883]? = some (.code yX6_isFull cX6_isFull 1 (some .boolean)) := rfl
set_option maxRecDepth 100000 in
theorem am_yc65 : lw_tbl[887]? = some (.code yX6_isTaken cX6_isTaken 3 (some .boolean)) := rfl
set_option maxRecDepth 100000 in
theorem am_yc66 : lw_tbl[891]? = some (.code yX6_addMatch cX6_addMatch 3 (some .int)) := rfl
set_option maxRecDepth 100000 in
theorem am_yc67 : lw_tbl[908]? = some (.code yX6_setWorth cX6_setWorth 4 none) := rfl
set_option maxRecDepth 100000 in
theorem am_yc68 : lw_tbl[918]? = some (.code yX6_setRests cX6_setRests 3 none) := rfl
set_option maxRecDepth 100000 in
theorem am_yc69 : lw_tbl[926]? = some (.code yX6_bestWorth cX6_bestWorth 2 (some .int)) := rfl
set_option maxRecDepth 100000 in
theorem am_yc70 : lw_tbl[968]? = some (.code yX6_bestStrip cX6_bestStrip 4 (some .int)) := rfl
set_option maxRecDepth 100000 in
theorem am_yc71 : lw_tbl[896]? = some (.code yX6_forgetBest cX6_forgetBest 1 none) := rfl
set_option maxRecDepth 100000 in
theorem am_yc72 : lw_tbl[930]? = some (.code yX6_findBest cX6_findBest 5 none) := rfl
set_option maxRecDepth 100000 in
theorem am_yc73 : lw_tbl[957]? = some (.code yX6_bestWithStrip cX6_bestWithStrip 8 (some .long)) := rfl
set_option maxRecDepth 100000 in
theorem am_yc74 : lw_tbl[946]? = some (.code yX6_addUpGains cX6_addUpGains 5 none) := rfl
set_option maxRecDepth 100000 in
theorem am_yc75 : lw_tbl[950]? = some (.code yX6_valueOn cX6_valueOn 5 (some .long)) := rfl
set_option maxRecDepth 100000 in
theorem am_yc76 : lw_tbl[934]? = some (.code yX6_fitsOneStrip cX6_fitsOneStrip 5 (some .boolean)) := rfl
set_option maxRecDepth 100000 in
theorem am_yc77 : lw_tbl[938]? = some (.code yX6_canShare cX6_canShare 5 (some .boolean)) := rfl
set_option maxRecDepth 100000 in
theorem am_yc78 : lw_tbl[197]? = some (.code yX7_init cX7_init 1 none) := rfl
set_option maxRecDepth 100000 in
theorem am_yc79 : lw_tbl[639]? = some (.code yX7_hasRoomForTwenty cX7_hasRoomForTwenty 1 (some .boolean)) := rfl
set_option maxRecDepth 100000 in
theorem am_yc80 : lw_tbl[643]? = some (.code yX7_append cX7_append 3 none) := rfl
set_option maxRecDepth 100000 in
theorem am_yc81 : lw_tbl[647]? = some (.code yX7_size cX7_size 1 (some .int)) := rfl
set_option maxRecDepth 100000 in
theorem am_yc82 : lw_tbl[835]? = some (.code yX7_clear cX7_clear 1 none) := rfl
set_option maxRecDepth 100000 in
theorem am_yc83 : lw_tbl[671]? = some (.code yX7_byteAt cX7_byteAt 2 (some .int)) := rfl
set_option maxRecDepth 100000 in
theorem am_yc84 : lw_tbl[100]? = some (.code yX8_init cX8_init 1 none) := rfl
set_option maxRecDepth 100000 in
theorem am_yc85 : lw_tbl[441]? = some (.code yX8_setLayers cX8_setLayers 4 none) := rfl
set_option maxRecDepth 100000 in
theorem am_yc86 : lw_tbl[445]? = some (.code yX8_setSurface cX8_setSurface 4 none) := rfl
set_option maxRecDepth 100000 in
theorem am_yc87 : lw_tbl[604]? = some (.code yX8_copyFrom cX8_copyFrom 2 none) := rfl
set_option maxRecDepth 100000 in
theorem am_yc88 : lw_tbl[484]? = some (.code yX8_orderWorks cX8_orderWorks 2 none) := rfl
set_option maxRecDepth 100000 in
theorem am_yc89 : lw_tbl[492]? = some (.code yX8_ballsToday cX8_ballsToday 1 (some .int)) := rfl
set_option maxRecDepth 100000 in
theorem am_yc90 : lw_tbl[496]? = some (.code yX8_addBalls cX8_addBalls 2 none) := rfl
set_option maxRecDepth 100000 in
theorem am_yc91 : lw_tbl[512]? = some (.code yX8_endDay cX8_endDay 3 none) := rfl
set_option maxRecDepth 100000 in
theorem am_yc92 : lw_tbl[457]? = some (.code yX8_valueOf cX8_valueOf 2 (some .int)) := rfl
set_option maxRecDepth 100000 in
theorem am_yc93 : lw_tbl[461]? = some (.code yX8_bounce cX8_bounce 2 (some .int)) := rfl
set_option maxRecDepth 100000 in
theorem am_yc94 : lw_tbl[516]? = some (.code yX8_passDay cX8_passDay 6 none) := rfl
set_option maxRecDepth 100000 in
theorem am_yc95 : lw_tbl[520]? = some (.code yX8_soak cX8_soak 3 none) := rfl
set_option maxRecDepth 100000 in
theorem am_yc96 : lw_tbl[531]? = some (.code yX8_seep cX8_seep 2 none) := rfl
set_option maxRecDepth 100000 in
theorem am_yc97 : lw_tbl[535]? = some (.code yX8_dry cX8_dry 2 none) := rfl
set_option maxRecDepth 100000 in
theorem am_yc98 : lw_tbl[539]? = some (.code yX8_harden cX8_harden 2 none) := rfl
set_option maxRecDepth 100000 in
theorem am_yc99 : lw_tbl[544]? = some (.code yX8_grow cX8_grow 1 none) := rfl
set_option maxRecDepth 100000 in
theorem am_yc100 : lw_tbl[131]? = some (.code yX9_init cX9_init 1 none) := rfl
set_option maxRecDepth 100000 in
theorem am_yc101 : lw_tbl[475]? = some (.code yX9_keep cX9_keep 4 none) := rfl
set_option maxRecDepth 100000 in
theorem am_yc102 : lw_tbl[504]? = some (.code yX9_rainOn cX9_rainOn 2 (some .int)) := rfl
set_option maxRecDepth 100000 in
theorem am_yc103 : lw_tbl[508]? = some (.code yX9_sunOn cX9_sunOn 2 (some .int)) := rfl
set_option maxRecDepth 100000 in
theorem am_yc104 : lw_tbl[91]? = some (.code yX10_init cX10_init 2 none) := rfl
set_option maxRecDepth 100000 in
theorem am_yc105 : lw_tbl[410]? = some (.code yX10_status cX10_status 1 (some .int)) := rfl
set_option maxRecDepth 100000 in
theorem am_yc106 : lw_tbl[414]? = some (.code yX10_strip cX10_strip 1 (some .int)) := rfl
set_option maxRecDepth 100000 in
theorem am_yc107 : lw_tbl[426]? = some (.code yX10_set cX10_set 10 (some .boolean)) := rfl
set_option maxRecDepth 100000 in
theorem am_yc108 : lw_tbl[453]? = some (.code yX10_told cX10_told 3 (some .int)) := rfl
set_option maxRecDepth 100000 in
theorem am_yc109 : lw_tbl[468]? = some (.code yX10_weather cX10_weather 6 (some .boolean)) := rfl
set_option maxRecDepth 100000 in
theorem am_yc110 : lw_tbl[480]? = some (.code yX10_work cX10_work 3 (some .boolean)) := rfl
set_option maxRecDepth 100000 in
theorem am_yc111 : lw_tbl[488]? = some (.code yX10_play cX10_play 3 (some .boolean)) := rfl
set_option maxRecDepth 100000 in
theorem am_yc112 : lw_tbl[500]? = some (.code yX10_step cX10_step 2 (some .int)) := rfl
set_option maxRecDepth 100000 in
theorem am_yc113 : lw_tbl[549]? = some (.code yX10_day cX10_day 1 (some .int)) := rfl
set_option maxRecDepth 100000 in
theorem am_yc114 : lw_tbl[553]? = some (.code yX10_measure cX10_measure 4 (some .boolean)) := rfl
set_option maxRecDepth 100000 in
theorem am_yc115 : lw_tbl[566]? = some (.code yX10_reads cX10_reads 3 (some .boolean)) := rfl
set_option maxRecDepth 100000 in
theorem am_yc116 : lw_tbl[596]? = some (.code yX10_plan cX10_plan 6 (some .int)) := rfl
set_option maxRecDepth 100000 in
theorem am_yc117 : lw_tbl[627]? = some (.code yX10_planned cX10_planned 3 (some .int)) := rfl
set_option maxRecDepth 100000 in
theorem am_yc118 : lw_tbl[635]? = some (.code yX10_feed cX10_feed 6 (some .int)) := rfl
set_option maxRecDepth 100000 in
theorem am_yc119 : lw_tbl[651]? = some (.code yX10_rules cX10_rules 3 (some .int)) := rfl
set_option maxRecDepth 100000 in
theorem am_yc120 : lw_tbl[845]? = some (.code yX10_fault cX10_fault 2 (some .int)) := rfl
set_option maxRecDepth 100000 in
theorem am_yc121 : lw_tbl[857]? = some (.code yX10_rate cX10_rate 3 (some .int)) := rfl
set_option maxRecDepth 100000 in
theorem am_yc122 : lw_tbl[873]? = some (.code yX10_when cX10_when 5 (some .int)) := rfl
set_option maxRecDepth 100000 in
theorem am_yc123 : lw_tbl[879]? = some (.code yX10_match cX10_match 3 (some .int)) := rfl
set_option maxRecDepth 100000 in
theorem am_yc124 : lw_tbl[900]? = some (.code yX10_worth cX10_worth 4 (some .boolean)) := rfl
set_option maxRecDepth 100000 in
theorem am_yc125 : lw_tbl[914]? = some (.code yX10_rests cX10_rests 3 (some .boolean)) := rfl
set_option maxRecDepth 100000 in
theorem am_yc126 : lw_tbl[922]? = some (.code yX10_give cX10_give 2 (some .int)) := rfl
set_option maxRecDepth 100000 in
theorem am_yc127 : lw_tbl[964]? = some (.code yX10_given cX10_given 3 (some .int)) := rfl
set_option maxRecDepth 100000 in
theorem am_yc128 : lw_tbl[974]? = some (.code yX10_mark cX10_mark 4 (some .boolean)) := rfl
set_option maxRecDepth 100000 in
theorem am_yc129 : lw_tbl[988]? = some (.code yX10_part cX10_part 2 (some .boolean)) := rfl
set_option maxRecDepth 100000 in
theorem am_yc130 : lw_tbl[997]? = some (.code yX10_fair cX10_fair 2 (some .boolean)) := rfl
set_option maxRecDepth 100000 in
theorem am_yc131 : lw_tbl[1010]? = some (.code yX10_upper cX10_upper 1 (some .long)) := rfl
set_option maxRecDepth 100000 in
theorem am_yc132 : lw_tbl[1018]? = some (.code yX10_lower cX10_lower 1 (some .long)) := rfl
set_option maxRecDepth 100000 in
theorem am_yc133 : lw_tbl[422]? = some (.code yX10_answer cX10_answer 2 (some .int)) := rfl
set_option maxRecDepth 100000 in
theorem am_yc134 : lw_tbl[418]? = some (.code yX10_refuse cX10_refuse 2 (some .int)) := rfl
set_option maxRecDepth 100000 in
theorem am_yc135 : lw_tbl[449]? = some (.code yX10_done cX10_done 1 (some .boolean)) := rfl
set_option maxRecDepth 100000 in
theorem am_yc136 : lw_tbl[434]? = some (.code yX10_deny cX10_deny 2 (some .boolean)) := rfl
set_option maxRecDepth 100000 in
theorem am_yc137 : lw_tbl[430]? = some (.code yX10_hasStrip cX10_hasStrip 2 (some .boolean)) := rfl
set_option maxRecDepth 100000 in
theorem am_yc138 : lw_tbl[471]? = some (.code yX10_isDay cX10_isDay 1 (some .boolean)) := rfl
set_option maxRecDepth 100000 in
theorem am_yc139 : lw_tbl[437]? = some (.code yX10_within cX10_within 3 (some .boolean)) := rfl
set_option maxRecDepth 100000 in
theorem am_yc140 : lw_tbl[523]? = some (.code yX10_cut cX10_cut 2 (some .int)) := rfl
set_option maxRecDepth 100000 in
theorem am_yc141 : lw_tbl[1027]? = some (.code yX11_init cX11_init 1 none) := rfl
set_option maxRecDepth 100000 in
theorem am_yc142 : lw_tbl[1207]? = some (.code yX11_status cX11_status 1 (some .int)) := rfl
set_option maxRecDepth 100000 in
theorem am_yc143 : lw_tbl[1215]? = some (.code yX11_refuse cX11_refuse 2 (some .int)) := rfl
set_option maxRecDepth 100000 in
theorem am_yc144 : lw_tbl[1227]? = some (.code yX11_no cX11_no 2 (some .boolean)) := rfl
set_option maxRecDepth 100000 in
theorem am_yc145 : lw_tbl[1223]? = some (.code yX11_isStrip cX11_isStrip 2 (some .boolean)) := rfl
set_option maxRecDepth 100000 in
theorem am_yc146 : lw_tbl[1250]? = some (.code yX11_isDay cX11_isDay 1 (some .boolean)) := rfl
set_option maxRecDepth 100000 in
theorem am_yc147 : lw_tbl[1230]? = some (.code yX11_isIn cX11_isIn 2 (some .boolean)) := rfl
set_option maxRecDepth 100000 in
theorem am_yc148 : lw_tbl[1211]? = some (.code yX11_strip cX11_strip 2 (some .int)) := rfl
set_option maxRecDepth 100000 in
theorem am_yc149 : lw_tbl[1219]? = some (.code yX11_set cX11_set 8 (some .boolean)) := rfl
set_option maxRecDepth 100000 in
theorem am_yc150 : lw_tbl[1238]? = some (.code yX11_begin cX11_begin 3 none) := rfl
set_option maxRecDepth 100000 in
theorem am_yc151 : lw_tbl[1242]? = some (.code yX11_bounce cX11_bounce 2 (some .int)) := rfl
set_option maxRecDepth 100000 in
theorem am_yc152 : lw_tbl[1234]? = some (.code yX11_told cX11_told 3 (some .int)) := rfl
set_option maxRecDepth 100000 in
theorem am_yc153 : lw_tbl[1273]? = some (.code yX11_cut cX11_cut 2 (some .int)) := rfl
set_option maxRecDepth 100000 in
theorem am_yc154 : lw_tbl[1270]? = some (.code yX11_grows cX11_grows 3 none) := rfl
set_option maxRecDepth 100000 in
theorem am_yc155 : lw_tbl[1266]? = some (.code yX11_steps cX11_steps 9 none) := rfl
set_option maxRecDepth 100000 in
theorem am_yc156 : lw_tbl[1247]? = some (.code yX11_weather cX11_weather 5 (some .boolean)) := rfl
set_option maxRecDepth 100000 in
theorem am_yc157 : lw_tbl[1254]? = some (.code yX11_work cX11_work 3 (some .boolean)) := rfl
set_option maxRecDepth 100000 in
theorem am_yc158 : lw_tbl[1258]? = some (.code yX11_play cX11_play 3 (some .boolean)) := rfl
set_option maxRecDepth 100000 in
theorem am_yc159 : lw_tbl[1262]? = some (.code yX11_step cX11_step 3 (some .int)) := rfl
set_option maxRecDepth 100000 in
theorem am_yc160 : lw_tbl[1278]? = some (.code yX11_day cX11_day 1 (some .int)) := rfl
set_option maxRecDepth 100000 in
theorem am_yc161 : lw_tbl[1282]? = some (.code yX11_measure cX11_measure 4 (some .boolean)) := rfl
set_option maxRecDepth 100000 in
theorem am_yc162 : lw_tbl[1290]? = some (.code yX11_many cX11_many 5 (some .int)) := rfl
set_option maxRecDepth 100000 in
theorem am_yc163 : lw_tbl[1294]? = some (.code yX11_sumOf cX11_sumOf 5 (some .int)) := rfl
set_option maxRecDepth 100000 in
theorem am_yc164 : lw_tbl[1301]? = some (.code yX11_common cX11_common 10 (some .long)) := rfl
set_option maxRecDepth 100000 in
theorem am_yc165 : lw_tbl[1298]? = some (.code yX11_tells cX11_tells 7 (some .boolean)) := rfl
set_option maxRecDepth 100000 in
theorem am_yc166 : lw_tbl[1286]? = some (.code yX11_reads cX11_reads 9 (some .boolean)) := rfl
set_option maxRecDepth 100000 in
theorem am_yc167 : lw_tbl[1306]? = some (.code yX11_plan cX11_plan 12 (some .int)) := rfl
set_option maxRecDepth 100000 in
theorem am_yc168 : lw_tbl[1310]? = some (.code yX11_planned cX11_planned 2 (some .int)) := rfl
set_option maxRecDepth 100000 in
theorem am_yc169 : lw_tbl[1330]? = some (.code yX11_look cX11_look 2 (some .int)) := rfl
set_option maxRecDepth 100000 in
theorem am_yc170 : lw_tbl[1333]? = some (.code yX11_isLetter cX11_isLetter 1 (some .boolean)) := rfl
set_option maxRecDepth 100000 in
theorem am_yc171 : lw_tbl[1339]? = some (.code yX11_isDigit cX11_isDigit 1 (some .boolean)) := rfl
set_option maxRecDepth 100000 in
theorem am_yc172 : lw_tbl[1326]? = some (.code yX11_next cX11_next 2 none) := rfl
set_option maxRecDepth 100000 in
theorem am_yc173 : lw_tbl[1354]? = some (.code yX11_spelled cX11_spelled 8 (some .long)) := rfl
set_option maxRecDepth 100000 in
theorem am_yc174 : lw_tbl[1358]? = some (.code yX11_isWord cX11_isWord 3 (some .boolean)) := rfl
set_option maxRecDepth 100000 in
theorem am_yc175 : lw_tbl[1370]? = some (.code yX11_isSign cX11_isSign 2 (some .boolean)) := rfl
set_option maxRecDepth 100000 in
theorem am_yc176 : lw_tbl[1351]? = some (.code yX11_fail cX11_fail 3 none) := rfl
set_option maxRecDepth 100000 in
theorem am_yc177 : lw_tbl[1347]? = some (.code yX11_wrong cX11_wrong 1 none) := rfl
set_option maxRecDepth 100000 in
theorem am_yc178 : lw_tbl[1366]? = some (.code yX11_whatOf cX11_whatOf 1 (some .int)) := rfl
set_option maxRecDepth 100000 in
theorem am_yc179 : lw_tbl[1362]? = some (.code yX11_readTest cX11_readTest 3 none) := rfl
set_option maxRecDepth 100000 in
theorem am_yc180 : lw_tbl[1343]? = some (.code yX11_readRule cX11_readRule 2 none) := rfl
set_option maxRecDepth 100000 in
theorem am_yc181 : lw_tbl[1314]? = some (.code yX11_feed cX11_feed 6 (some .int)) := rfl
set_option maxRecDepth 100000 in
theorem am_yc182 : lw_tbl[1318]? = some (.code yX11_lay cX11_lay 3 none) := rfl
set_option maxRecDepth 100000 in
theorem am_yc183 : lw_tbl[1322]? = some (.code yX11_rules cX11_rules 4 (some .int)) := rfl
set_option maxRecDepth 100000 in
theorem am_yc184 : lw_tbl[1374]? = some (.code yX11_fault cX11_fault 2 (some .int)) := rfl
set_option maxRecDepth 100000 in
theorem am_yc185 : lw_tbl[1382]? = some (.code yX11_rated cX11_rated 6 (some .int)) := rfl
set_option maxRecDepth 100000 in
theorem am_yc186 : lw_tbl[1378]? = some (.code yX11_rate cX11_rate 3 (some .int)) := rfl
set_option maxRecDepth 100000 in
theorem am_yc187 : lw_tbl[1386]? = some (.code yX11_when cX11_when 5 (some .int)) := rfl
set_option maxRecDepth 100000 in
theorem am_yc188 : lw_tbl[1398]? = some (.code yX11_isMatch cX11_isMatch 2 (some .boolean)) := rfl
set_option maxRecDepth 100000 in
theorem am_yc189 : lw_tbl[1390]? = some (.code yX11_match cX11_match 4 (some .int)) := rfl
set_option maxRecDepth 100000 in
theorem am_yc190 : lw_tbl[1394]? = some (.code yX11_worth cX11_worth 4 (some .boolean)) := rfl
set_option maxRecDepth 100000 in
theorem am_yc191 : lw_tbl[1402]? = some (.code yX11_rests cX11_rests 3 (some .boolean)) := rfl
set_option maxRecDepth 100000 in
theorem am_yc192 : lw_tbl[1418]? = some (.code yX11_canBoth cX11_canBoth 6 (some .boolean)) := rfl
set_option maxRecDepth 100000 in
theorem am_yc193 : lw_tbl[1414]? = some (.code yX11_canLay cX11_canLay 4 (some .boolean)) := rfl
set_option maxRecDepth 100000 in
theorem am_yc194 : lw_tbl[1410]? = some (.code yX11_gives cX11_gives 6 (some .int)) := rfl
set_option maxRecDepth 100000 in
theorem am_yc195 : lw_tbl[1406]? = some (.code yX11_give cX11_give 2 (some .int)) := rfl
set_option maxRecDepth 100000 in
theorem am_yc196 : lw_tbl[1422]? = some (.code yX11_given cX11_given 2 (some .int)) := rfl
set_option maxRecDepth 100000 in
theorem am_yc197 : lw_tbl[1426]? = some (.code yX11_mark cX11_mark 4 (some .boolean)) := rfl
set_option maxRecDepth 100000 in
theorem am_yc198 : lw_tbl[1434]? = some (.code yX11_manyBy cX11_manyBy 4 (some .int)) := rfl
set_option maxRecDepth 100000 in
theorem am_yc199 : lw_tbl[1438]? = some (.code yX11_sumBy cX11_sumBy 4 (some .int)) := rfl
set_option maxRecDepth 100000 in
theorem am_yc200 : lw_tbl[1430]? = some (.code yX11_part cX11_part 6 (some .boolean)) := rfl
set_option maxRecDepth 100000 in
theorem am_yc201 : lw_tbl[1442]? = some (.code yX11_fair cX11_fair 11 (some .boolean)) := rfl
set_option maxRecDepth 100000 in
theorem am_yc202 : lw_tbl[1446]? = some (.code yX11_upper cX11_upper 1 (some .long)) := rfl
set_option maxRecDepth 100000 in
theorem am_yc203 : lw_tbl[1450]? = some (.code yX11_lower cX11_lower 1 (some .long)) := rfl
end
section
def am_len (e : am_E) : Nat := match e.1 with
  | .aload _ | .iload _ | .lload _ | .istore _ | .lstore _ | .astore _ | .bipush _ | .ldc _ | .newarray _ => 2
  | .sipush _ | .iinc _ _ | .ldc2_w _ | .getfield _ | .putfield _ | .getstatic _ | .if_icmp _ _ | .ifCond _ _ | .goto _ | .new _ | .anewarray _ | .invokevirtual _ | .invokestatic _ | .invokespecial _ => 3
  | .multianewarray _ _ => 4
  | .tableswitch _ _ _ _ => e.2.2.2.1
  | _ => 1
def am_stop (i : Instr) : Bool := match i with
  | .goto _ | .tableswitch _ _ _ _ | .ireturn | .lreturn | .areturn | .return_ => true
  | _ => false
def am_pc (mid j : Nat) : Nat := ((am_cd mid j).map (fun e => e.2.1)).getD 100000
def am_lk (t c ix u v : Nat) : Bool := am_lkT.any (fun q => q.2.2.2.1 == ix && (q.2.2.1 == c && (q.2.1 == t && (q.2.2.2.2.1 == u && q.2.2.2.2.2 == v))))
def am_srT : List (Nat × Nat) := [(127, 0), (171, 1), (173, 2), (175, 3), (177, 4), (179, 5), (181, 6), (183, 7), (185, 8), (146, 9)]
def am_yk (y : Nat) : Nat := ((am_ywT[y]?).map Prod.fst).getD 9
def am_callok (mid ix y n b : Nat) : Bool := if 1000 ≤ y then am_lk 2 (am_k mid) ix y 0 else
  (decide (y < 204 ∧ (parseMethodDescriptor (am_y y).desc).map (fun d => d.parameters.length) = some n) && (match b with
  | 0 => am_lk 1 (am_k mid) ix y 0 && am_yk y == 0
  | 1 => am_lk 1 (am_k mid) ix y 0 && (am_yk y == 1 && am_k mid == am_k y)
  | 2 => am_lk 1 (am_k mid) ix y 0 && am_yk y == 2
  | 4 => am_neT.contains (am_k mid, ix, y) && am_yk y == 1
  | 5 => am_neT.contains (am_k mid, ix, y) && am_yk y == 2
  | _ => false))
def am_fdok (c k t : Nat) : Bool := decide (c < 12 ∧ k < (am_ftT.getD c []).length ∧ (am_ftT.getD c []).getD k 9 = t)
def am_ck (mid j : Nat) (e : am_E) : Bool := (am_stop e.1 || am_pc mid (j + 1) == e.2.1 + am_len e) && (match e.1 with
  | .if_icmp _ z => decide ((e.2.1 : Int) + z = (am_pc mid e.2.2.1 : Int))
  | .ifCond _ z => decide ((e.2.1 : Int) + z = (am_pc mid e.2.2.1 : Int))
  | .goto z => decide ((e.2.1 : Int) + z = (am_pc mid e.2.2.1 : Int))
  | .tableswitch df _ _ offs => match am_swT[e.2.2.1]? with
    | some (dt, ts) => decide ((e.2.1 : Int) + df = (am_pc mid dt : Int)) && decide (offs.toList.map (fun z => (e.2.1 : Int) + z) = ts.map (fun t => (am_pc mid t : Int)))
    | none => false
  | .getfield ix => am_lk 0 (am_k mid) ix e.2.2.1 e.2.2.2.1 && am_fdok e.2.2.1 e.2.2.2.1 e.2.2.2.2
  | .putfield ix => am_lk 0 (am_k mid) ix e.2.2.1 e.2.2.2.1 && (am_fdok e.2.2.1 e.2.2.2.1 e.2.2.2.2 && ((am_T e.2.2.1 e.2.2.2.1).2.2.2 == false || (am_yk mid == 2 && am_k mid == e.2.2.1)))
  | .invokevirtual ix => am_callok mid ix e.2.2.1 e.2.2.2.1 e.2.2.2.2 && (if 1000 ≤ e.2.2.1 then e.2.2.1 == 1006 || e.2.2.1 == 1007 else e.2.2.2.2 == 0)
  | .invokestatic ix => am_callok mid ix e.2.2.1 e.2.2.2.1 e.2.2.2.2 && (if 1000 ≤ e.2.2.1 then decide (1001 ≤ e.2.2.1 ∧ e.2.2.1 ≤ 1005) else e.2.2.2.2 == 1 || e.2.2.2.2 == 4)
  | .invokespecial ix => am_callok mid ix e.2.2.1 e.2.2.2.1 e.2.2.2.2 && (if 1000 ≤ e.2.2.1 then e.2.2.1 == 1000 else e.2.2.2.2 == 2 || e.2.2.2.2 == 5)
  | .new ix => am_lk 3 (am_k mid) ix e.2.2.1 0 && decide (e.2.2.1 < 12)
  | .anewarray ix => am_lk 3 (am_k mid) ix 8 0
  | .multianewarray ix dm => am_lk 6 (am_k mid) ix 0 0 && dm == 2
  | .ldc ix => am_k mid == 5 && am_srT.contains (ix, e.2.2.1)
  | .ldc2_w ix => am_lk 4 (am_k mid) ix e.2.2.1 0
  | .getstatic ix => am_lk 5 (am_k mid) ix 0 0
  | .ireturn => decide ((e.2.2.1 = 0 ∧ am_r mid = some .int) ∨ (e.2.2.1 = 1 ∧ am_r mid = some .boolean))
  | .lreturn => decide (am_r mid = some .long)
  | .areturn => match am_r mid with
    | some (.object _) => true
    | _ => false
  | .return_ => decide (am_r mid = none)
  | _ => true)
def am_dk (mid : Nat) (e : am_E) : Bool := decide (decode (am_b mid) e.2.1 = .ok (e.1, am_len e))
def am_ckM (mid : Nat) : Bool := (List.range (am_cT.getD mid []).length).all (fun j => match am_cd mid j with
  | some e => am_ck mid j e
  | none => true)
def am_dkM (mid : Nat) : Bool := (am_cT.getD mid []).all (fun e => am_dk mid e)
/-- a field's type, by its number -/
def am_tyok (c : Nat) : Bool := (List.range (am_ftT.getD c []).length).all (fun k => match (am_ftT.getD c []).getD k 9, parseFieldDescriptor (am_T c k).2.2.1 with
  | 0, some .int => true
  | 1, some .long => true
  | 2, some (.object _) => true
  | 2, some (.array _) => true
  | _, _ => false)
theorem am_ty_ok : (List.range 12).all am_tyok = true := by decide +kernel
end
section
theorem am_split {f : Nat → Bool} {n a : Nat} (h : ((List.range n).map (fun k => k + a)).all f = true) {m : Nat} (h1 : a ≤ m) (h2 : m < a + n) : f m = true := List.all_eq_true.mp h m (List.mem_map.mpr ⟨m - a, List.mem_range.mpr (by omega), by omega⟩)
set_option maxRecDepth 100000 in
theorem am_ck_0 : ((List.range 22).map (fun k => k + 0)).all am_ckM = true := by decide +kernel
set_option maxRecDepth 100000 in
theorem am_dk_0 : ((List.range 22).map (fun k => k + 0)).all am_dkM = true := by decide +kernel
set_option maxRecDepth 100000 in
theorem am_ck_22 : ((List.range 25).map (fun k => k + 22)).all am_ckM = true := by decide +kernel
set_option maxRecDepth 100000 in
theorem am_dk_22 : ((List.range 25).map (fun k => k + 22)).all am_dkM = true := by decide +kernel
set_option maxRecDepth 100000 in
theorem am_ck_47 : ((List.range 30).map (fun k => k + 47)).all am_ckM = true := by decide +kernel
set_option maxRecDepth 100000 in
theorem am_dk_47 : ((List.range 30).map (fun k => k + 47)).all am_dkM = true := by decide +kernel
set_option maxRecDepth 100000 in
theorem am_ck_77 : ((List.range 29).map (fun k => k + 77)).all am_ckM = true := by decide +kernel
set_option maxRecDepth 100000 in
theorem am_dk_77 : ((List.range 29).map (fun k => k + 77)).all am_dkM = true := by decide +kernel
set_option maxRecDepth 100000 in
theorem am_ck_106 : ((List.range 19).map (fun k => k + 106)).all am_ckM = true := by decide +kernel
set_option maxRecDepth 100000 in
theorem am_dk_106 : ((List.range 19).map (fun k => k + 106)).all am_dkM = true := by decide +kernel
set_option maxRecDepth 100000 in
theorem am_ck_125 : ((List.range 29).map (fun k => k + 125)).all am_ckM = true := by decide +kernel
set_option maxRecDepth 100000 in
theorem am_dk_125 : ((List.range 29).map (fun k => k + 125)).all am_dkM = true := by decide +kernel
set_option maxRecDepth 100000 in
theorem am_ck_154 : ((List.range 12).map (fun k => k + 154)).all am_ckM = true := by decide +kernel
set_option maxRecDepth 100000 in
theorem am_dk_154 : ((List.range 12).map (fun k => k + 154)).all am_dkM = true := by decide +kernel
set_option maxRecDepth 100000 in
theorem am_ck_166 : ((List.range 12).map (fun k => k + 166)).all am_ckM = true := by decide +kernel
set_option maxRecDepth 100000 in
theorem am_dk_166 : ((List.range 12).map (fun k => k + 166)).all am_dkM = true := by decide +kernel
set_option maxRecDepth 100000 in
theorem am_ck_178 : ((List.range 9).map (fun k => k + 178)).all am_ckM = true := by decide +kernel
set_option maxRecDepth 100000 in
theorem am_dk_178 : ((List.range 9).map (fun k => k + 178)).all am_dkM = true := by decide +kernel
set_option maxRecDepth 100000 in
theorem am_ck_187 : ((List.range 13).map (fun k => k + 187)).all am_ckM = true := by decide +kernel
set_option maxRecDepth 100000 in
theorem am_dk_187 : ((List.range 13).map (fun k => k + 187)).all am_dkM = true := by decide +kernel
set_option maxRecDepth 100000 in
theorem am_ck_200 : ((List.range 4).map (fun k => k + 200)).all am_ckM = true := by decide +kernel
set_option maxRecDepth 100000 in
theorem am_dk_200 : ((List.range 4).map (fun k => k + 200)).all am_dkM = true := by decide +kernel
set_option maxRecDepth 100000 in
theorem am_ck_204 : ((List.range 1).map (fun k => k + 204)).all am_ckM = true := by decide +kernel
theorem am_ck_ok : ∀ m, m < 205 → am_ckM m = true := by
  intro m hm
  by_cases h0 : m < 22
  · exact am_split am_ck_0 (by omega) (by omega)
  by_cases h22 : m < 47
  · exact am_split am_ck_22 (by omega) (by omega)
  by_cases h47 : m < 77
  · exact am_split am_ck_47 (by omega) (by omega)
  by_cases h77 : m < 106
  · exact am_split am_ck_77 (by omega) (by omega)
  by_cases h106 : m < 125
  · exact am_split am_ck_106 (by omega) (by omega)
  by_cases h125 : m < 154
  · exact am_split am_ck_125 (by omega) (by omega)
  by_cases h154 : m < 166
  · exact am_split am_ck_154 (by omega) (by omega)
  by_cases h166 : m < 178
  · exact am_split am_ck_166 (by omega) (by omega)
  by_cases h178 : m < 187
  · exact am_split am_ck_178 (by omega) (by omega)
  by_cases h187 : m < 200
  · exact am_split am_ck_187 (by omega) (by omega)
  by_cases h200 : m < 204
  · exact am_split am_ck_200 (by omega) (by omega)
  exact am_split am_ck_204 (by omega) (by omega)
end
section
set_option maxRecDepth 100000 in
theorem am_dl_0 : ((am_c204.drop 0).take 40).all (am_dk 204) = true := by decide +kernel
set_option maxRecDepth 100000 in
theorem am_dl_40 : ((am_c204.drop 40).take 40).all (am_dk 204) = true := by decide +kernel
set_option maxRecDepth 100000 in
theorem am_dl_80 : ((am_c204.drop 80).take 40).all (am_dk 204) = true := by decide +kernel
set_option maxRecDepth 100000 in
theorem am_dl_120 : ((am_c204.drop 120).take 40).all (am_dk 204) = true := by decide +kernel
set_option maxRecDepth 100000 in
theorem am_dl_160 : ((am_c204.drop 160).take 40).all (am_dk 204) = true := by decide +kernel
set_option maxRecDepth 100000 in
theorem am_dl_200 : ((am_c204.drop 200).take 40).all (am_dk 204) = true := by decide +kernel
set_option maxRecDepth 100000 in
theorem am_dl_240 : ((am_c204.drop 240).take 40).all (am_dk 204) = true := by decide +kernel
set_option maxRecDepth 100000 in
theorem am_dl_280 : ((am_c204.drop 280).take 40).all (am_dk 204) = true := by decide +kernel
set_option maxRecDepth 100000 in
theorem am_dl_320 : ((am_c204.drop 320).take 40).all (am_dk 204) = true := by decide +kernel
set_option maxRecDepth 100000 in
theorem am_dl_360 : ((am_c204.drop 360).take 40).all (am_dk 204) = true := by decide +kernel
set_option maxRecDepth 100000 in
theorem am_dl_400 : ((am_c204.drop 400).take 40).all (am_dk 204) = true := by decide +kernel
set_option maxRecDepth 100000 in
theorem am_dl_440 : ((am_c204.drop 440).take 40).all (am_dk 204) = true := by decide +kernel
set_option maxRecDepth 100000 in
theorem am_dl_480 : ((am_c204.drop 480).take 40).all (am_dk 204) = true := by decide +kernel
set_option maxRecDepth 100000 in
theorem am_dl_520 : ((am_c204.drop 520).take 40).all (am_dk 204) = true := by decide +kernel
set_option maxRecDepth 100000 in
theorem am_dl_560 : ((am_c204.drop 560).take 40).all (am_dk 204) = true := by decide +kernel
set_option maxRecDepth 100000 in
theorem am_dl_600 : ((am_c204.drop 600).take 40).all (am_dk 204) = true := by decide +kernel
set_option maxRecDepth 100000 in
theorem am_dl_640 : ((am_c204.drop 640).take 40).all (am_dk 204) = true := by decide +kernel
set_option maxRecDepth 100000 in
theorem am_dl_680 : ((am_c204.drop 680).take 40).all (am_dk 204) = true := by decide +kernel
set_option maxRecDepth 100000 in
theorem am_dl_720 : ((am_c204.drop 720).take 40).all (am_dk 204) = true := by decide +kernel
theorem am_dl_app {f : am_E → Bool} {l : List am_E} {a b : Nat} (h1 : (l.take a).all f = true) (h2 : ((l.drop a).take b).all f = true) : (l.take (a + b)).all f = true := by
  rw [List.take_add, List.all_append, h1, h2]
  rfl
theorem am_dm_0 : (am_c204.take 40).all (am_dk 204) = true := am_dl_0
theorem am_dm_40 : (am_c204.take 80).all (am_dk 204) = true := am_dl_app (f := am_dk 204) (l := am_c204) (a := 40) (b := 40) am_dm_0 am_dl_40
theorem am_dm_80 : (am_c204.take 120).all (am_dk 204) = true := am_dl_app (f := am_dk 204) (l := am_c204) (a := 80) (b := 40) am_dm_40 am_dl_80
theorem am_dm_120 : (am_c204.take 160).all (am_dk 204) = true := am_dl_app (f := am_dk 204) (l := am_c204) (a := 120) (b := 40) am_dm_80 am_dl_120
theorem am_dm_160 : (am_c204.take 200).all (am_dk 204) = true := am_dl_app (f := am_dk 204) (l := am_c204) (a := 160) (b := 40) am_dm_120 am_dl_160
theorem am_dm_200 : (am_c204.take 240).all (am_dk 204) = true := am_dl_app (f := am_dk 204) (l := am_c204) (a := 200) (b := 40) am_dm_160 am_dl_200
theorem am_dm_240 : (am_c204.take 280).all (am_dk 204) = true := am_dl_app (f := am_dk 204) (l := am_c204) (a := 240) (b := 40) am_dm_200 am_dl_240
theorem am_dm_280 : (am_c204.take 320).all (am_dk 204) = true := am_dl_app (f := am_dk 204) (l := am_c204) (a := 280) (b := 40) am_dm_240 am_dl_280
theorem am_dm_320 : (am_c204.take 360).all (am_dk 204) = true := am_dl_app (f := am_dk 204) (l := am_c204) (a := 320) (b := 40) am_dm_280 am_dl_320
theorem am_dm_360 : (am_c204.take 400).all (am_dk 204) = true := am_dl_app (f := am_dk 204) (l := am_c204) (a := 360) (b := 40) am_dm_320 am_dl_360
theorem am_dm_400 : (am_c204.take 440).all (am_dk 204) = true := am_dl_app (f := am_dk 204) (l := am_c204) (a := 400) (b := 40) am_dm_360 am_dl_400
theorem am_dm_440 : (am_c204.take 480).all (am_dk 204) = true := am_dl_app (f := am_dk 204) (l := am_c204) (a := 440) (b := 40) am_dm_400 am_dl_440
theorem am_dm_480 : (am_c204.take 520).all (am_dk 204) = true := am_dl_app (f := am_dk 204) (l := am_c204) (a := 480) (b := 40) am_dm_440 am_dl_480
theorem am_dm_520 : (am_c204.take 560).all (am_dk 204) = true := am_dl_app (f := am_dk 204) (l := am_c204) (a := 520) (b := 40) am_dm_480 am_dl_520
theorem am_dm_560 : (am_c204.take 600).all (am_dk 204) = true := am_dl_app (f := am_dk 204) (l := am_c204) (a := 560) (b := 40) am_dm_520 am_dl_560
theorem am_dm_600 : (am_c204.take 640).all (am_dk 204) = true := am_dl_app (f := am_dk 204) (l := am_c204) (a := 600) (b := 40) am_dm_560 am_dl_600
theorem am_dm_640 : (am_c204.take 680).all (am_dk 204) = true := am_dl_app (f := am_dk 204) (l := am_c204) (a := 640) (b := 40) am_dm_600 am_dl_640
theorem am_dm_680 : (am_c204.take 720).all (am_dk 204) = true := am_dl_app (f := am_dk 204) (l := am_c204) (a := 680) (b := 40) am_dm_640 am_dl_680
theorem am_dm_720 : (am_c204.take 760).all (am_dk 204) = true := am_dl_app (f := am_dk 204) (l := am_c204) (a := 720) (b := 40) am_dm_680 am_dl_720
set_option maxRecDepth 100000 in
theorem am_dkL : am_dkM 204 = true := by
  have h := am_dm_720
  rw [List.take_of_length_le (show am_c204.length ≤ 760 from Nat.le_of_ble_eq_true rfl)] at h
  exact h
theorem am_dk_ok : ∀ m, m < 205 → am_dkM m = true := by
  intro m hm
  by_cases h0 : m < 22
  · exact am_split am_dk_0 (by omega) (by omega)
  by_cases h22 : m < 47
  · exact am_split am_dk_22 (by omega) (by omega)
  by_cases h47 : m < 77
  · exact am_split am_dk_47 (by omega) (by omega)
  by_cases h77 : m < 106
  · exact am_split am_dk_77 (by omega) (by omega)
  by_cases h106 : m < 125
  · exact am_split am_dk_106 (by omega) (by omega)
  by_cases h125 : m < 154
  · exact am_split am_dk_125 (by omega) (by omega)
  by_cases h154 : m < 166
  · exact am_split am_dk_154 (by omega) (by omega)
  by_cases h166 : m < 178
  · exact am_split am_dk_166 (by omega) (by omega)
  by_cases h178 : m < 187
  · exact am_split am_dk_178 (by omega) (by omega)
  by_cases h187 : m < 200
  · exact am_split am_dk_187 (by omega) (by omega)
  by_cases h200 : m < 204
  · exact am_split am_dk_200 (by omega) (by omega)
  rw [show m = 204 by omega]
  exact am_dkL
end
section
/-! ===== the small machine's memory as cells of the machine's heap ===== -/
def am_ad (b : Nat) (ad : Nat → Nat) (a : Nat) : Nat := if a < 1000000 then b + a else ad (a - 1000000)
def am_cv (b : Nat) (ad : Nat → Nat) (v : Value) : Value := match v with
  | .ref a => .ref (am_ad b ad a)
  | v => v
theorem am_cv_cat (b : Nat) (ad : Nat → Nat) (v : Value) : (am_cv b ad v).category = v.category := by cases v <;> rfl
theorem am_cv_sum (b : Nat) (ad : Nat → Nat) (l : List Value) : ((l.map (am_cv b ad)).map fun v => v.category).sum = (l.map fun v => v.category).sum := by
  rw [List.map_map]
  congr 1
  exact List.map_congr_left (fun v _ => am_cv_cat b ad v)
def am_fv (b : Nat) (ad : Nat → Nat) (M : am_M) (ci a k : Nat) : Value := match (am_ftT.getD ci []).getD k 2 with
  | 0 => .int (M.2.2.1 a k)
  | 1 => .long (M.2.2.2 a k)
  | _ => va_rf ((am_rd M.2.1 a k).map (am_ad b ad))
def am_cell (cy : Nat → ClassId) (b : Nat) (ad : Nat → Nat) (M : am_M) (a : Nat) : va_E := match M.1[a]? with
  | none => .inr (0, [])
  | some (k, n) => if k < 100 then .inr (k, (List.range n).map (am_fv b ad M k a)) else if k = 103 then .inl (cy k, n, .inr (.inl (M.2.2.2 a))) else if k = 104 ∨ k = 105 then .inl (cy k, n, .inr (.inr (.inr (.inr (fun i => (am_rd M.2.1 a i).map (am_ad b ad)))))) else .inl (cy k, n, .inl (M.2.2.1 a))
def am_ws (cy : Nat → ClassId) (b : Nat) (ad : Nat → Nat) (M : am_M) : va_W := (List.range M.1.length).map (fun a => (b + a, am_cell cy b ad M a))
theorem am_ws_get {cy : Nat → ClassId} {b : Nat} {ad : Nat → Nat} {M : am_M} {a : Nat} (h : a < M.1.length) : (am_ws cy b ad M)[a]? = some (b + a, am_cell cy b ad M a) := by
  unfold am_ws
  rw [List.getElem?_map, List.getElem?_range h]
  rfl
theorem am_ws_len {cy : Nat → ClassId} {b : Nat} {ad : Nat → Nat} {M : am_M} : (am_ws cy b ad M).length = M.1.length := by
  unfold am_ws
  rw [List.length_map, List.length_range]
theorem am_ws_D (cy : Nat → ClassId) (b : Nat) (ad : Nat → Nat) (M : am_M) : va_D (fun q => b ≤ q) (am_ws cy b ad M) := by
  have key : ∀ (k : Nat) (q : Nat × va_E), (am_ws cy b ad M)[k]? = some q → q.1 = b + k := by
    intro k q hk
    have hl : k < M.1.length := by
      have := (List.getElem?_eq_some_iff.mp hk).1
      rwa [am_ws_len] at this
    rw [am_ws_get hl] at hk
    cases hk
    rfl
  refine ⟨fun i j x y hi hj hxy => ?_, fun k q hk => ?_⟩
  · rw [key i x hi, key j y hj] at hxy
    omega
  · rw [key k q hk]
    exact Nat.le_add_right b k
theorem am_ws_set {cy : Nat → ClassId} {b : Nat} {ad : Nat → Nat} {M M' : am_M} {a : Nat} {x : va_E} (hn : M'.1.length = M.1.length) (hc : ∀ q, q ≠ a → am_cell cy b ad M' q = am_cell cy b ad M q) (hx : am_cell cy b ad M' a = x) : am_ws cy b ad M' = (am_ws cy b ad M).set a (b + a, x) := by
  apply List.ext_getElem?
  intro i
  by_cases hi : i < M.1.length
  · rw [am_ws_get (by omega), List.getElem?_set]
    by_cases h : a = i
    · subst h
      rw [if_pos rfl, am_ws_len, if_pos hi, hx]
    · rw [if_neg h, am_ws_get hi, hc i (Ne.symm h)]
  · rw [List.getElem?_eq_none (by rw [am_ws_len]; omega), List.getElem?_eq_none (by rw [List.length_set, am_ws_len]; omega)]
theorem am_ws_push {cy : Nat → ClassId} {b : Nat} {ad : Nat → Nat} {M M' : am_M} {x : va_E} (hn : M'.1.length = M.1.length + 1) (hc : ∀ q, q < M.1.length → am_cell cy b ad M' q = am_cell cy b ad M q) (hx : am_cell cy b ad M' M.1.length = x) : am_ws cy b ad M' = am_ws cy b ad M ++ [(b + M.1.length, x)] := by
  apply List.ext_getElem?
  intro i
  by_cases hi : i < M.1.length
  · rw [am_ws_get (by omega), List.getElem?_append_left (by rw [am_ws_len]; exact hi), am_ws_get hi, hc i hi]
  · rw [List.getElem?_append_right (by rw [am_ws_len]; omega), am_ws_len]
    by_cases h : i = M.1.length
    · subst h
      rw [am_ws_get (by omega), Nat.sub_self, hx]
      rfl
    · rw [List.getElem?_eq_none (by rw [am_ws_len]; omega), List.getElem?_eq_none (by show ([_] : List _).length ≤ _; simp; omega)]
def am_wf (M : am_M) : Prop := M.2.1.length = M.1.length ∧ M.1.length ≤ 1000000 ∧ (∀ (a k n : Nat), M.1[a]? = some (k, n) → k < 100 → k < 12 ∧ n = (am_ftT.getD k []).length) ∧ ∀ (a k n : Nat), M.1[a]? = some (k, n) → 100 ≤ k → k ≤ 105
def am_sz (M : am_M) : Nat := (M.1.map Prod.snd).sum
/-- the words of the tables that go along with every call -/
def am_big : List Cond := lw_tbl.filter goodWord
theorem am_in {h : Nat} {w : Cond} (hw : lw_tbl[h]? = some w) (hg : goodWord w = true) : w ∈ am_big := List.mem_filter.mpr ⟨List.mem_of_getElem? hw, hg⟩
def am_tys (cy : Nat → ClassId) : List (ClassId × FieldType) := [(cy 100, .int), (cy 101, .byte), (cy 102, .boolean), (cy 103, .long), (cy 104, .object RX8), (cy 105, .array .int)]
def am_slen : List Nat := am_sbT.map List.length
def am_A (b : Nat) : Nat → Prop := fun q => b ≤ q
/-- what holds of the constants, beside the world: the String constants, String's static, ORDERS, the script -/
def am_Kc (b : Nat) (ad : Nat → Nat) (X : Nat × (Nat → Int32)) (s : State) (H : Heap) : Prop :=
  (∀ q ∈ am_srT, vk_R RX5 q.1 (am_stT.getD q.2 "") (ad q.2) s) ∧ (∃ adV, vk_S 10 am_slen am_sbT ad adV (am_A b) s H) ∧ (va_Z "java/lang/String" "COMPACT_STRINGS" "Z" (.int 1) (am_A b) s H ∧ va_Zq "jdk/internal/util/Preconditions" "SIOOBE_FORMATTER" "Ljava/util/function/BiFunction;" (am_A b) s H) ∧ va_Z "PitchSquare$Season" "ORDERS" "[I" (.ref (ad 40)) (am_A b) s H ∧ va_T .int (ad 40) 8 (fun k => .int (am_orders k)) (am_A b) s H ∧ va_X (ad 50) X.1 X.2 s H ∧ ad 50 < b
/-- int[][]: its class holds rows that are int[] -/
def am_AA (cy : Nat → ClassId) (s : State) : Prop := ∃ kA : Class, s.vm.classes[cy 105]? = some kA ∧ kA.kind = .array (cy 100) (.array .int)
def am_Kn (b : Nat) (ad : Nat → Nat) (D : va_G) (cy : Nat → ClassId) (X : Nat × (Nat → Int32)) (s : State) (H : Heap) : Prop :=
  va_K D am_cl (am_tys cy) s ∧ (∀ q ∈ am_neT, va_Nw (.methodLinkNest (am_nm q.1) q.2.1 (am_y q.2.2) "PitchSquare") s) ∧ va_AO RX8 s ∧ am_AA cy s ∧ am_Kc b ad X s H
def am_Ctx (b : Nat) (ad : Nat → Nat) (D : va_G) (cy : Nat → ClassId) (X : Nat × (Nat → Int32)) (mid : Nat) (p : Program) (s : State) (m : MethodId) (args : Array Value) (meth : Method) (c : Code) : Prop :=
  p.tables.exec = Jvm.exec ∧ c.code = am_b mid ∧ c.maxLocals = am_nL mid ∧ s.vm.findClass (am_nm (am_k mid)) = some m.cls ∧ (∀ w ∈ am_big, w.before args s = true) ∧ meth.sig.returnType = am_r mid ∧ meth.locks = false ∧ (am_yk mid = 2 → meth.name = "<init>") ∧ am_Kn b ad D cy X s s.heap ∧ b ≤ s.heap.size ∧ mid < 205
def am_At (b : Nat) (ad : Nat → Nat) (D : va_G) (cy : Nat → ClassId) (M : am_M) (s : State) (cells : Nat) (H : Heap) (locs : List Loc) : Prop := va_P D am_cl (am_ws cy b ad M) H ∧ b + M.1.length = s.heap.size + cells ∧ am_wf M ∧ va_S (am_A b) s.heap H locs
def am_lr (b : Nat) (ad : Nat → Nat) (ls : List Value) (cls : Array Slot) (n : Nat) : Prop := cls.size = n ∧ ls.length = n ∧ lv_wf cls ∧ ∀ (i : Nat) (v : Value), ls[i]? = some v → (∀ k, v ≠ Value.retAddr k) → cls[i]? = some (Slot.val (am_cv b ad v))
/-- from every heap that holds the memory M: the walk comes to Q -/
def am_G (p : Program) (l : Launch) (e : Env) (R : Room) (s : State) (m : MethodId) (args : Array Value) (below : List Frame) (meth : Method) (c : Code) (Q : State → Prop) (b : Nat) (ad : Nat → Nat) (D : va_G) (cy : Nat → ClassId) (mid : Nat) (cells slots j : Nat) (ls st : List Value) (M : am_M) : Prop :=
  ∀ (H : Heap) (locs : List Loc) (cls : Array Slot), am_lr b ad ls cls (am_nL mid) → am_At b ad D cy M s cells H locs → W p l e R s m args below meth c H locs cells slots Q (F0 m (am_pc mid j) cls (st.map (am_cv b ad)))
theorem am_cd_lt {mid j : Nat} {e : am_E} (h : am_cd mid j = some e) : j < (am_cT.getD mid []).length := by
  unfold am_cd at h
  have := (List.getElem?_eq_some_iff.mp h).1
  rwa [List.getD_eq_getElem?_getD]
theorem am_fact {mid j : Nat} {e : am_E} (hm : mid < 205) (h : am_cd mid j = some e) : decode (am_b mid) (am_pc mid j) = .ok (e.1, am_len e) ∧ am_ck mid j e = true := by
  have hl := am_cd_lt h
  have h1 := am_dk_ok mid hm
  have h2 := am_ck_ok mid hm
  unfold am_dkM at h1
  unfold am_ckM at h2
  have hp : am_pc mid j = e.2.1 := by unfold am_pc; rw [h]; rfl
  have hmem : e ∈ am_cT.getD mid [] := by
    unfold am_cd at h
    rw [List.getD_eq_getElem?_getD]
    exact List.mem_of_getElem? h
  have h3 := List.all_eq_true.mp h1 e hmem
  have h4 := List.all_eq_true.mp h2 j (List.mem_range.mpr hl)
  rw [h] at h4
  exact ⟨by rw [hp]; exact of_decide_eq_true h3, h4⟩
theorem am_next {mid j : Nat} {e : am_E} (hm : mid < 205) (h : am_cd mid j = some e) (hs : am_stop e.1 = false) : am_pc mid (j + 1) = am_pc mid j + am_len e := by
  have h2 := (am_fact hm h).2
  have hp : am_pc mid j = e.2.1 := by unfold am_pc; rw [h]; rfl
  unfold am_ck at h2
  rw [hs, Bool.false_or, Bool.and_eq_true] at h2
  rw [hp]
  exact eq_of_beq h2.1
/-- how large the heap is: all that was made is there, and no more -/
theorem am_size {p : Program} {l : Launch} {e : Env} {R : Room} {s : State} {m : MethodId} {args : Array Value} {below : List Frame} {meth : Method} {c : Code} {Q : State → Prop} {b : Nat} {ad : Nat → Nat} {D : va_G} {cy : Nat → ClassId} {cells slots : Nat} {M : am_M} {H : Heap} {locs : List Loc} {g : JFrame} (hb : b ≤ s.heap.size) (hA : am_At b ad D cy M s cells H locs) (k : H.size = b + M.1.length → W p l e R s m args below meth c H locs cells slots Q g) : W p l e R s m args below meth c H locs cells slots Q g := by
  intro T hT Y
  refine k ?_ T hT Y
  have h1 := Y.heapSize
  rw [hT] at h1
  have h2 := hA.2.1
  have h3 : b + M.1.length ≤ H.size := by
    cases hn : M.1.length with
    | zero => exact Nat.le_trans hb hA.2.2.2.1
    | succ k9 =>
      have h4 := (hA.1 k9 _ (am_ws_get (cy := cy) (b := b) (ad := ad) (M := M) (a := k9) (by omega))).lt
      have h5 : b + k9 < H.size := h4
      omega
  omega
end
section
theorem am_lt {b : Nat} {ad : Nat → Nat} {D : va_G} {cy : Nat → ClassId} {X : Nat × (Nat → Int32)} {mid : Nat} {p : Program} {s : State} {m : MethodId} {args : Array Value} {meth : Method} {c : Code} (C : am_Ctx b ad D cy X mid p s m args meth c) : mid < 205 := C.2.2.2.2.2.2.2.2.2.2
section SND
variable {p : Program} {l : Launch} {e : Env} {R : Room} {s : State} {m : MethodId} {args : Array Value} {below : List Frame} {meth : Method} {c : Code} {Q : State → Prop}
variable {b : Nat} {ad : Nat → Nat} {D : va_G} {cy : Nat → ClassId} {X : Nat × (Nat → Int32)} {mid cells slots j : Nat} {ls st : List Value} {M : am_M} {q : Nat × Nat × Nat × Nat} {x y : Int32} {lx ly : Int64} {v w : Value} {i : Nat} {k4 : Fin 4} {n : Int}

theorem sd_iadd (C : am_Ctx b ad D cy X mid p s m args meth c) (hc : am_cd mid j = some (.iadd, q)) (kk : am_G p l e R s m args below meth c Q b ad D cy mid cells slots (j + 1) ls (.int (x + y) :: st) M) : am_G p l e R s m args below meth c Q b ad D cy mid cells slots j ls (.int y :: .int x :: st) M := by
  intro H locs cls hl hA
  have hd := (am_fact (am_lt C) hc).1
  have h := kk H locs cls hl hA
  rw [am_next (am_lt C) hc rfl] at h
  exact lv_iadd C.1 C.2.1 hd h
theorem sd_isub (C : am_Ctx b ad D cy X mid p s m args meth c) (hc : am_cd mid j = some (.isub, q)) (kk : am_G p l e R s m args below meth c Q b ad D cy mid cells slots (j + 1) ls (.int (x - y) :: st) M) : am_G p l e R s m args below meth c Q b ad D cy mid cells slots j ls (.int y :: .int x :: st) M := by
  intro H locs cls hl hA
  have hd := (am_fact (am_lt C) hc).1
  have h := kk H locs cls hl hA
  rw [am_next (am_lt C) hc rfl] at h
  exact lv_isub C.1 C.2.1 hd h
theorem sd_imul (C : am_Ctx b ad D cy X mid p s m args meth c) (hc : am_cd mid j = some (.imul, q)) (kk : am_G p l e R s m args below meth c Q b ad D cy mid cells slots (j + 1) ls (.int (x * y) :: st) M) : am_G p l e R s m args below meth c Q b ad D cy mid cells slots j ls (.int y :: .int x :: st) M := by
  intro H locs cls hl hA
  have hd := (am_fact (am_lt C) hc).1
  have h := kk H locs cls hl hA
  rw [am_next (am_lt C) hc rfl] at h
  exact lv_imul C.1 C.2.1 hd h
theorem sd_iand (C : am_Ctx b ad D cy X mid p s m args meth c) (hc : am_cd mid j = some (.iand, q)) (kk : am_G p l e R s m args below meth c Q b ad D cy mid cells slots (j + 1) ls (.int (x &&& y) :: st) M) : am_G p l e R s m args below meth c Q b ad D cy mid cells slots j ls (.int y :: .int x :: st) M := by
  intro H locs cls hl hA
  have hd := (am_fact (am_lt C) hc).1
  have h := kk H locs cls hl hA
  rw [am_next (am_lt C) hc rfl] at h
  exact lv_iand C.1 C.2.1 hd h
theorem sd_ior (C : am_Ctx b ad D cy X mid p s m args meth c) (hc : am_cd mid j = some (.ior, q)) (kk : am_G p l e R s m args below meth c Q b ad D cy mid cells slots (j + 1) ls (.int (x ||| y) :: st) M) : am_G p l e R s m args below meth c Q b ad D cy mid cells slots j ls (.int y :: .int x :: st) M := by
  intro H locs cls hl hA
  have hd := (am_fact (am_lt C) hc).1
  have h := kk H locs cls hl hA
  rw [am_next (am_lt C) hc rfl] at h
  exact lv_ior C.1 C.2.1 hd h
theorem sd_ixor (C : am_Ctx b ad D cy X mid p s m args meth c) (hc : am_cd mid j = some (.ixor, q)) (kk : am_G p l e R s m args below meth c Q b ad D cy mid cells slots (j + 1) ls (.int (x ^^^ y) :: st) M) : am_G p l e R s m args below meth c Q b ad D cy mid cells slots j ls (.int y :: .int x :: st) M := by
  intro H locs cls hl hA
  have hd := (am_fact (am_lt C) hc).1
  have h := kk H locs cls hl hA
  rw [am_next (am_lt C) hc rfl] at h
  exact lv_ixor C.1 C.2.1 hd h
theorem sd_ishl (C : am_Ctx b ad D cy X mid p s m args meth c) (hc : am_cd mid j = some (.ishl, q)) (kk : am_G p l e R s m args below meth c Q b ad D cy mid cells slots (j + 1) ls (.int (x <<< (y &&& 31)) :: st) M) : am_G p l e R s m args below meth c Q b ad D cy mid cells slots j ls (.int y :: .int x :: st) M := by
  intro H locs cls hl hA
  have hd := (am_fact (am_lt C) hc).1
  have h := kk H locs cls hl hA
  rw [am_next (am_lt C) hc rfl] at h
  exact lv_ishl C.1 C.2.1 hd h
theorem sd_ishr (C : am_Ctx b ad D cy X mid p s m args meth c) (hc : am_cd mid j = some (.ishr, q)) (kk : am_G p l e R s m args below meth c Q b ad D cy mid cells slots (j + 1) ls (.int (x >>> (y &&& 31)) :: st) M) : am_G p l e R s m args below meth c Q b ad D cy mid cells slots j ls (.int y :: .int x :: st) M := by
  intro H locs cls hl hA
  have hd := (am_fact (am_lt C) hc).1
  have h := kk H locs cls hl hA
  rw [am_next (am_lt C) hc rfl] at h
  exact lv_ishr C.1 C.2.1 hd h
theorem sd_iushr (C : am_Ctx b ad D cy X mid p s m args meth c) (hc : am_cd mid j = some (.iushr, q)) (kk : am_G p l e R s m args below meth c Q b ad D cy mid cells slots (j + 1) ls (.int (x.toUInt32 >>> (y.toUInt32 &&& Int32.toUInt32 31)).toInt32 :: st) M) : am_G p l e R s m args below meth c Q b ad D cy mid cells slots j ls (.int y :: .int x :: st) M := by
  intro H locs cls hl hA
  have hd := (am_fact (am_lt C) hc).1
  have h := kk H locs cls hl hA
  rw [am_next (am_lt C) hc rfl] at h
  exact lv_iushr C.1 C.2.1 hd rfl h
theorem sd_idiv (C : am_Ctx b ad D cy X mid p s m args meth c) (hc : am_cd mid j = some (.idiv, q)) (h0 : ¬ y = 0) (kk : am_G p l e R s m args below meth c Q b ad D cy mid cells slots (j + 1) ls (.int (x / y) :: st) M) : am_G p l e R s m args below meth c Q b ad D cy mid cells slots j ls (.int y :: .int x :: st) M := by
  intro H locs cls hl hA
  have hd := (am_fact (am_lt C) hc).1
  have h := kk H locs cls hl hA
  rw [am_next (am_lt C) hc rfl] at h
  exact lv_idiv C.1 C.2.1 hd h0 h
theorem sd_ineg (C : am_Ctx b ad D cy X mid p s m args meth c) (hc : am_cd mid j = some (.ineg, q)) (kk : am_G p l e R s m args below meth c Q b ad D cy mid cells slots (j + 1) ls (.int (-x) :: st) M) : am_G p l e R s m args below meth c Q b ad D cy mid cells slots j ls (.int x :: st) M := by
  intro H locs cls hl hA
  have hd := (am_fact (am_lt C) hc).1
  have h := kk H locs cls hl hA
  rw [am_next (am_lt C) hc rfl] at h
  exact lv_ineg C.1 C.2.1 hd h
theorem sd_i2b (C : am_Ctx b ad D cy X mid p s m args meth c) (hc : am_cd mid j = some (.i2b, q)) (kk : am_G p l e R s m args below meth c Q b ad D cy mid cells slots (j + 1) ls (.int x.toInt8.toInt32 :: st) M) : am_G p l e R s m args below meth c Q b ad D cy mid cells slots j ls (.int x :: st) M := by
  intro H locs cls hl hA
  have hd := (am_fact (am_lt C) hc).1
  have h := kk H locs cls hl hA
  rw [am_next (am_lt C) hc rfl] at h
  exact lv_i2b C.1 C.2.1 hd rfl h
theorem sd_i2c (C : am_Ctx b ad D cy X mid p s m args meth c) (hc : am_cd mid j = some (.i2c, q)) (kk : am_G p l e R s m args below meth c Q b ad D cy mid cells slots (j + 1) ls (.int (x.toUInt32 % 65536).toInt32 :: st) M) : am_G p l e R s m args below meth c Q b ad D cy mid cells slots j ls (.int x :: st) M := by
  intro H locs cls hl hA
  have hd := (am_fact (am_lt C) hc).1
  have h := kk H locs cls hl hA
  rw [am_next (am_lt C) hc rfl] at h
  exact lv_i2c C.1 C.2.1 hd rfl h
theorem sd_i2l (C : am_Ctx b ad D cy X mid p s m args meth c) (hc : am_cd mid j = some (.i2l, q)) (kk : am_G p l e R s m args below meth c Q b ad D cy mid cells slots (j + 1) ls (.long x.toInt64 :: st) M) : am_G p l e R s m args below meth c Q b ad D cy mid cells slots j ls (.int x :: st) M := by
  intro H locs cls hl hA
  have hd := (am_fact (am_lt C) hc).1
  have h := kk H locs cls hl hA
  rw [am_next (am_lt C) hc rfl] at h
  exact lv_i2l C.1 C.2.1 hd rfl h
theorem sd_l2i (C : am_Ctx b ad D cy X mid p s m args meth c) (hc : am_cd mid j = some (.l2i, q)) (kk : am_G p l e R s m args below meth c Q b ad D cy mid cells slots (j + 1) ls (.int lx.toInt32 :: st) M) : am_G p l e R s m args below meth c Q b ad D cy mid cells slots j ls (.long lx :: st) M := by
  intro H locs cls hl hA
  have hd := (am_fact (am_lt C) hc).1
  have h := kk H locs cls hl hA
  rw [am_next (am_lt C) hc rfl] at h
  exact lv_l2i C.1 C.2.1 hd rfl h
theorem sd_ladd (C : am_Ctx b ad D cy X mid p s m args meth c) (hc : am_cd mid j = some (.ladd, q)) (kk : am_G p l e R s m args below meth c Q b ad D cy mid cells slots (j + 1) ls (.long (lx + ly) :: st) M) : am_G p l e R s m args below meth c Q b ad D cy mid cells slots j ls (.long ly :: .long lx :: st) M := by
  intro H locs cls hl hA
  have hd := (am_fact (am_lt C) hc).1
  have h := kk H locs cls hl hA
  rw [am_next (am_lt C) hc rfl] at h
  exact lv_ladd C.1 C.2.1 hd h
theorem sd_lsub (C : am_Ctx b ad D cy X mid p s m args meth c) (hc : am_cd mid j = some (.lsub, q)) (kk : am_G p l e R s m args below meth c Q b ad D cy mid cells slots (j + 1) ls (.long (lx - ly) :: st) M) : am_G p l e R s m args below meth c Q b ad D cy mid cells slots j ls (.long ly :: .long lx :: st) M := by
  intro H locs cls hl hA
  have hd := (am_fact (am_lt C) hc).1
  have h := kk H locs cls hl hA
  rw [am_next (am_lt C) hc rfl] at h
  exact lv_lsub C.1 C.2.1 hd h
theorem sd_lmul (C : am_Ctx b ad D cy X mid p s m args meth c) (hc : am_cd mid j = some (.lmul, q)) (kk : am_G p l e R s m args below meth c Q b ad D cy mid cells slots (j + 1) ls (.long (lx * ly) :: st) M) : am_G p l e R s m args below meth c Q b ad D cy mid cells slots j ls (.long ly :: .long lx :: st) M := by
  intro H locs cls hl hA
  have hd := (am_fact (am_lt C) hc).1
  have h := kk H locs cls hl hA
  rw [am_next (am_lt C) hc rfl] at h
  exact lv_lmul C.1 C.2.1 hd h
theorem sd_ldiv (C : am_Ctx b ad D cy X mid p s m args meth c) (hc : am_cd mid j = some (.ldiv, q)) (h0 : ¬ ly = 0) (kk : am_G p l e R s m args below meth c Q b ad D cy mid cells slots (j + 1) ls (.long (lx / ly) :: st) M) : am_G p l e R s m args below meth c Q b ad D cy mid cells slots j ls (.long ly :: .long lx :: st) M := by
  intro H locs cls hl hA
  have hd := (am_fact (am_lt C) hc).1
  have h := kk H locs cls hl hA
  rw [am_next (am_lt C) hc rfl] at h
  exact lv_ldiv C.1 C.2.1 hd h0 h
theorem sd_lrem (C : am_Ctx b ad D cy X mid p s m args meth c) (hc : am_cd mid j = some (.lrem, q)) (h0 : ¬ ly = 0) (kk : am_G p l e R s m args below meth c Q b ad D cy mid cells slots (j + 1) ls (.long (lx - lx / ly * ly) :: st) M) : am_G p l e R s m args below meth c Q b ad D cy mid cells slots j ls (.long ly :: .long lx :: st) M := by
  intro H locs cls hl hA
  have hd := (am_fact (am_lt C) hc).1
  have h := kk H locs cls hl hA
  rw [am_next (am_lt C) hc rfl] at h
  exact lv_lrem C.1 C.2.1 hd h0 h
theorem sd_lneg (C : am_Ctx b ad D cy X mid p s m args meth c) (hc : am_cd mid j = some (.lneg, q)) (kk : am_G p l e R s m args below meth c Q b ad D cy mid cells slots (j + 1) ls (.long (-lx) :: st) M) : am_G p l e R s m args below meth c Q b ad D cy mid cells slots j ls (.long lx :: st) M := by
  intro H locs cls hl hA
  have hd := (am_fact (am_lt C) hc).1
  have h := kk H locs cls hl hA
  rw [am_next (am_lt C) hc rfl] at h
  exact lv_lneg C.1 C.2.1 hd h
theorem sd_lcmp (C : am_Ctx b ad D cy X mid p s m args meth c) (hc : am_cd mid j = some (.lcmp, q)) (kk : am_G p l e R s m args below meth c Q b ad D cy mid cells slots (j + 1) ls (.int (lg_cmp lx ly) :: st) M) : am_G p l e R s m args below meth c Q b ad D cy mid cells slots j ls (.long ly :: .long lx :: st) M := by
  intro H locs cls hl hA
  have hd := (am_fact (am_lt C) hc).1
  have h := kk H locs cls hl hA
  rw [am_next (am_lt C) hc rfl] at h
  exact W.lcmp C.1 C.2.1 hd h
theorem sd_dup (C : am_Ctx b ad D cy X mid p s m args meth c) (hc : am_cd mid j = some (.dup, q)) (h0 : v.category = 1) (kk : am_G p l e R s m args below meth c Q b ad D cy mid cells slots (j + 1) ls (v :: v :: st) M) : am_G p l e R s m args below meth c Q b ad D cy mid cells slots j ls (v :: st) M := by
  intro H locs cls hl hA
  have hd := (am_fact (am_lt C) hc).1
  have h := kk H locs cls hl hA
  rw [am_next (am_lt C) hc rfl] at h
  exact lv_dup C.1 C.2.1 hd (by rw [am_cv_cat]; exact h0) h
theorem sd_pop (C : am_Ctx b ad D cy X mid p s m args meth c) (hc : am_cd mid j = some (.pop, q)) (h0 : v.category = 1) (kk : am_G p l e R s m args below meth c Q b ad D cy mid cells slots (j + 1) ls (st) M) : am_G p l e R s m args below meth c Q b ad D cy mid cells slots j ls (v :: st) M := by
  intro H locs cls hl hA
  have hd := (am_fact (am_lt C) hc).1
  have h := kk H locs cls hl hA
  rw [am_next (am_lt C) hc rfl] at h
  exact lv_pop C.1 C.2.1 hd (by rw [am_cv_cat]; exact h0) h
theorem sd_dup2a (C : am_Ctx b ad D cy X mid p s m args meth c) (hc : am_cd mid j = some (.dup2, q)) (h0 : v.category = 1 ∧ w.category = 1) (kk : am_G p l e R s m args below meth c Q b ad D cy mid cells slots (j + 1) ls (v :: w :: v :: w :: st) M) : am_G p l e R s m args below meth c Q b ad D cy mid cells slots j ls (v :: w :: st) M := by
  intro H locs cls hl hA
  have hd := (am_fact (am_lt C) hc).1
  have h := kk H locs cls hl hA
  rw [am_next (am_lt C) hc rfl] at h
  exact lv_dup2_11 C.1 C.2.1 hd (by rw [am_cv_cat]; exact h0.1) (by rw [am_cv_cat]; exact h0.2) h
theorem sd_dup2b (C : am_Ctx b ad D cy X mid p s m args meth c) (hc : am_cd mid j = some (.dup2, q)) (h0 : v.category = 2) (kk : am_G p l e R s m args below meth c Q b ad D cy mid cells slots (j + 1) ls (v :: v :: w :: st) M) : am_G p l e R s m args below meth c Q b ad D cy mid cells slots j ls (v :: w :: st) M := by
  intro H locs cls hl hA
  have hd := (am_fact (am_lt C) hc).1
  have h := kk H locs cls hl hA
  rw [am_next (am_lt C) hc rfl] at h
  exact lv_dup2_2 C.1 C.2.1 hd (by rw [am_cv_cat]; exact h0) h
theorem sd_iconst (C : am_Ctx b ad D cy X mid p s m args meth c) (hc : am_cd mid j = some (.iconst n, q)) (kk : am_G p l e R s m args below meth c Q b ad D cy mid cells slots (j + 1) ls (.int (Int32.ofInt n) :: st) M) : am_G p l e R s m args below meth c Q b ad D cy mid cells slots j ls (st) M := by
  intro H locs cls hl hA
  have hd := (am_fact (am_lt C) hc).1
  have h := kk H locs cls hl hA
  rw [am_next (am_lt C) hc rfl] at h
  exact lv_iconst C.1 C.2.1 hd rfl h
theorem sd_bipush (C : am_Ctx b ad D cy X mid p s m args meth c) (hc : am_cd mid j = some (.bipush n, q)) (kk : am_G p l e R s m args below meth c Q b ad D cy mid cells slots (j + 1) ls (.int (Int8.ofInt n).toInt32 :: st) M) : am_G p l e R s m args below meth c Q b ad D cy mid cells slots j ls (st) M := by
  intro H locs cls hl hA
  have hd := (am_fact (am_lt C) hc).1
  have h := kk H locs cls hl hA
  rw [am_next (am_lt C) hc rfl] at h
  exact lv_bipush C.1 C.2.1 hd rfl h
theorem sd_sipush (C : am_Ctx b ad D cy X mid p s m args meth c) (hc : am_cd mid j = some (.sipush n, q)) (kk : am_G p l e R s m args below meth c Q b ad D cy mid cells slots (j + 1) ls (.int (Int16.ofInt n).toInt32 :: st) M) : am_G p l e R s m args below meth c Q b ad D cy mid cells slots j ls (st) M := by
  intro H locs cls hl hA
  have hd := (am_fact (am_lt C) hc).1
  have h := kk H locs cls hl hA
  rw [am_next (am_lt C) hc rfl] at h
  exact lv_sipush C.1 C.2.1 hd rfl h
theorem sd_lconst {n2 : Fin 2} (C : am_Ctx b ad D cy X mid p s m args meth c) (hc : am_cd mid j = some (.lconst n2, q)) (kk : am_G p l e R s m args below meth c Q b ad D cy mid cells slots (j + 1) ls (.long (Int64.ofNat n2.val) :: st) M) : am_G p l e R s m args below meth c Q b ad D cy mid cells slots j ls (st) M := by
  intro H locs cls hl hA
  have hd := (am_fact (am_lt C) hc).1
  have h := kk H locs cls hl hA
  rw [am_next (am_lt C) hc rfl] at h
  exact lv_lconst C.1 C.2.1 hd rfl h
theorem sd_iload_n (C : am_Ctx b ad D cy X mid p s m args meth c) (hc : am_cd mid j = some (.iload_n k4, q)) (h0 : ls[k4.val]? = some (.int x)) (kk : am_G p l e R s m args below meth c Q b ad D cy mid cells slots (j + 1) ls (.int x :: st) M) : am_G p l e R s m args below meth c Q b ad D cy mid cells slots j ls (st) M := by
  intro H locs cls hl hA
  have hd := (am_fact (am_lt C) hc).1
  have h := kk H locs cls hl hA
  rw [am_next (am_lt C) hc rfl] at h
  exact lv_iload_n C.1 C.2.1 hd rfl (hl.2.2.2 _ _ h0 (fun k z => by cases z)) h
theorem sd_iload (C : am_Ctx b ad D cy X mid p s m args meth c) (hc : am_cd mid j = some (.iload i, q)) (h0 : ls[i]? = some (.int x)) (kk : am_G p l e R s m args below meth c Q b ad D cy mid cells slots (j + 1) ls (.int x :: st) M) : am_G p l e R s m args below meth c Q b ad D cy mid cells slots j ls (st) M := by
  intro H locs cls hl hA
  have hd := (am_fact (am_lt C) hc).1
  have h := kk H locs cls hl hA
  rw [am_next (am_lt C) hc rfl] at h
  exact lv_iload C.1 C.2.1 hd (hl.2.2.2 _ _ h0 (fun k z => by cases z)) h
theorem sd_lload_n (C : am_Ctx b ad D cy X mid p s m args meth c) (hc : am_cd mid j = some (.lload_n k4, q)) (h0 : ls[k4.val]? = some (.long lx)) (kk : am_G p l e R s m args below meth c Q b ad D cy mid cells slots (j + 1) ls (.long lx :: st) M) : am_G p l e R s m args below meth c Q b ad D cy mid cells slots j ls (st) M := by
  intro H locs cls hl hA
  have hd := (am_fact (am_lt C) hc).1
  have h := kk H locs cls hl hA
  rw [am_next (am_lt C) hc rfl] at h
  exact lv_lload_n C.1 C.2.1 hd rfl (hl.2.2.2 _ _ h0 (fun k z => by cases z)) h
theorem sd_lload (C : am_Ctx b ad D cy X mid p s m args meth c) (hc : am_cd mid j = some (.lload i, q)) (h0 : ls[i]? = some (.long lx)) (kk : am_G p l e R s m args below meth c Q b ad D cy mid cells slots (j + 1) ls (.long lx :: st) M) : am_G p l e R s m args below meth c Q b ad D cy mid cells slots j ls (st) M := by
  intro H locs cls hl hA
  have hd := (am_fact (am_lt C) hc).1
  have h := kk H locs cls hl hA
  rw [am_next (am_lt C) hc rfl] at h
  exact lv_lload C.1 C.2.1 hd (hl.2.2.2 _ _ h0 (fun k z => by cases z)) h
theorem sd_aload_n (C : am_Ctx b ad D cy X mid p s m args meth c) (hc : am_cd mid j = some (.aload_n k4, q)) (h0 : ls[k4.val]? = some (.ref i)) (kk : am_G p l e R s m args below meth c Q b ad D cy mid cells slots (j + 1) ls (.ref i :: st) M) : am_G p l e R s m args below meth c Q b ad D cy mid cells slots j ls (st) M := by
  intro H locs cls hl hA
  have hd := (am_fact (am_lt C) hc).1
  have h := kk H locs cls hl hA
  rw [am_next (am_lt C) hc rfl] at h
  exact lv_aload_n C.1 C.2.1 hd rfl (hl.2.2.2 _ _ h0 (fun k z => by cases z)) h
theorem sd_aload {a : Nat} (C : am_Ctx b ad D cy X mid p s m args meth c) (hc : am_cd mid j = some (.aload i, q)) (h0 : ls[i]? = some (.ref a)) (kk : am_G p l e R s m args below meth c Q b ad D cy mid cells slots (j + 1) ls (.ref a :: st) M) : am_G p l e R s m args below meth c Q b ad D cy mid cells slots j ls (st) M := by
  intro H locs cls hl hA
  have hd := (am_fact (am_lt C) hc).1
  have h := kk H locs cls hl hA
  rw [am_next (am_lt C) hc rfl] at h
  exact lv_aload C.1 C.2.1 hd (hl.2.2.2 _ _ h0 (fun k z => by cases z)) h
theorem sd_aloadN_n (C : am_Ctx b ad D cy X mid p s m args meth c) (hc : am_cd mid j = some (.aload_n k4, q)) (h0 : ls[k4.val]? = some .null) (kk : am_G p l e R s m args below meth c Q b ad D cy mid cells slots (j + 1) ls (.null :: st) M) : am_G p l e R s m args below meth c Q b ad D cy mid cells slots j ls (st) M := by
  intro H locs cls hl hA
  have hd := (am_fact (am_lt C) hc).1
  have h := kk H locs cls hl hA
  rw [am_next (am_lt C) hc rfl] at h
  exact lv_aload_nN C.1 C.2.1 hd rfl (hl.2.2.2 _ _ h0 (fun k z => by cases z)) h
theorem sd_aloadN (C : am_Ctx b ad D cy X mid p s m args meth c) (hc : am_cd mid j = some (.aload i, q)) (h0 : ls[i]? = some .null) (kk : am_G p l e R s m args below meth c Q b ad D cy mid cells slots (j + 1) ls (.null :: st) M) : am_G p l e R s m args below meth c Q b ad D cy mid cells slots j ls (st) M := by
  intro H locs cls hl hA
  have hd := (am_fact (am_lt C) hc).1
  have h := kk H locs cls hl hA
  rw [am_next (am_lt C) hc rfl] at h
  exact lv_aloadN C.1 C.2.1 hd (hl.2.2.2 _ _ h0 (fun k z => by cases z)) h
theorem sd_icmp_eq {z : Int} {r1 r2 r3 p0 : Nat} (C : am_Ctx b ad D cy X mid p s m args meth c) (hc : am_cd mid j = some (.if_icmp .eq z, p0, r1, r2, r3)) (kt : x = y → am_G p l e R s m args below meth c Q b ad D cy mid cells slots r1 ls st M) (kf : ¬ (x = y) → am_G p l e R s m args below meth c Q b ad D cy mid cells slots (j + 1) ls st M) : am_G p l e R s m args below meth c Q b ad D cy mid cells slots j ls (.int y :: .int x :: st) M := by
  intro H locs cls hl hA
  obtain ⟨hd, hk⟩ := am_fact (am_lt C) hc
  have hp : am_pc mid j = p0 := by unfold am_pc; rw [hc]; rfl
  have ht : ((am_pc mid j : Nat) : Int) + z = (am_pc mid r1 : Int) := by
    rw [hp]
    simp only [am_ck, Bool.and_eq_true, decide_eq_true_eq] at hk
    exact hk.2
  refine lv_icmp_eq C.1 C.2.1 hd ht (fun h0 => kt h0 H locs cls hl hA) (fun h0 => ?_)
  have h := kf h0 H locs cls hl hA
  rw [am_next (am_lt C) hc rfl] at h
  exact h
theorem sd_if_eq {z : Int} {r1 r2 r3 p0 : Nat} (C : am_Ctx b ad D cy X mid p s m args meth c) (hc : am_cd mid j = some (.ifCond .eq z, p0, r1, r2, r3)) (kt : x = 0 → am_G p l e R s m args below meth c Q b ad D cy mid cells slots r1 ls st M) (kf : ¬ (x = 0) → am_G p l e R s m args below meth c Q b ad D cy mid cells slots (j + 1) ls st M) : am_G p l e R s m args below meth c Q b ad D cy mid cells slots j ls (.int x :: st) M := by
  intro H locs cls hl hA
  obtain ⟨hd, hk⟩ := am_fact (am_lt C) hc
  have hp : am_pc mid j = p0 := by unfold am_pc; rw [hc]; rfl
  have ht : ((am_pc mid j : Nat) : Int) + z = (am_pc mid r1 : Int) := by
    rw [hp]
    simp only [am_ck, Bool.and_eq_true, decide_eq_true_eq] at hk
    exact hk.2
  refine lv_if_eq C.1 C.2.1 hd ht (fun h0 => kt h0 H locs cls hl hA) (fun h0 => ?_)
  have h := kf h0 H locs cls hl hA
  rw [am_next (am_lt C) hc rfl] at h
  exact h
theorem sd_icmp_ne {z : Int} {r1 r2 r3 p0 : Nat} (C : am_Ctx b ad D cy X mid p s m args meth c) (hc : am_cd mid j = some (.if_icmp .ne z, p0, r1, r2, r3)) (kt : ¬ x = y → am_G p l e R s m args below meth c Q b ad D cy mid cells slots r1 ls st M) (kf : x = y → am_G p l e R s m args below meth c Q b ad D cy mid cells slots (j + 1) ls st M) : am_G p l e R s m args below meth c Q b ad D cy mid cells slots j ls (.int y :: .int x :: st) M := by
  intro H locs cls hl hA
  obtain ⟨hd, hk⟩ := am_fact (am_lt C) hc
  have hp : am_pc mid j = p0 := by unfold am_pc; rw [hc]; rfl
  have ht : ((am_pc mid j : Nat) : Int) + z = (am_pc mid r1 : Int) := by
    rw [hp]
    simp only [am_ck, Bool.and_eq_true, decide_eq_true_eq] at hk
    exact hk.2
  refine lv_icmp_ne C.1 C.2.1 hd ht (fun h0 => kt h0 H locs cls hl hA) (fun h0 => ?_)
  have h := kf h0 H locs cls hl hA
  rw [am_next (am_lt C) hc rfl] at h
  exact h
theorem sd_if_ne {z : Int} {r1 r2 r3 p0 : Nat} (C : am_Ctx b ad D cy X mid p s m args meth c) (hc : am_cd mid j = some (.ifCond .ne z, p0, r1, r2, r3)) (kt : ¬ x = 0 → am_G p l e R s m args below meth c Q b ad D cy mid cells slots r1 ls st M) (kf : x = 0 → am_G p l e R s m args below meth c Q b ad D cy mid cells slots (j + 1) ls st M) : am_G p l e R s m args below meth c Q b ad D cy mid cells slots j ls (.int x :: st) M := by
  intro H locs cls hl hA
  obtain ⟨hd, hk⟩ := am_fact (am_lt C) hc
  have hp : am_pc mid j = p0 := by unfold am_pc; rw [hc]; rfl
  have ht : ((am_pc mid j : Nat) : Int) + z = (am_pc mid r1 : Int) := by
    rw [hp]
    simp only [am_ck, Bool.and_eq_true, decide_eq_true_eq] at hk
    exact hk.2
  refine lv_if_ne C.1 C.2.1 hd ht (fun h0 => kt h0 H locs cls hl hA) (fun h0 => ?_)
  have h := kf h0 H locs cls hl hA
  rw [am_next (am_lt C) hc rfl] at h
  exact h
theorem sd_icmp_lt {z : Int} {r1 r2 r3 p0 : Nat} (C : am_Ctx b ad D cy X mid p s m args meth c) (hc : am_cd mid j = some (.if_icmp .lt z, p0, r1, r2, r3)) (kt : x < y → am_G p l e R s m args below meth c Q b ad D cy mid cells slots r1 ls st M) (kf : ¬ (x < y) → am_G p l e R s m args below meth c Q b ad D cy mid cells slots (j + 1) ls st M) : am_G p l e R s m args below meth c Q b ad D cy mid cells slots j ls (.int y :: .int x :: st) M := by
  intro H locs cls hl hA
  obtain ⟨hd, hk⟩ := am_fact (am_lt C) hc
  have hp : am_pc mid j = p0 := by unfold am_pc; rw [hc]; rfl
  have ht : ((am_pc mid j : Nat) : Int) + z = (am_pc mid r1 : Int) := by
    rw [hp]
    simp only [am_ck, Bool.and_eq_true, decide_eq_true_eq] at hk
    exact hk.2
  refine lv_icmp_lt C.1 C.2.1 hd ht (fun h0 => kt h0 H locs cls hl hA) (fun h0 => ?_)
  have h := kf h0 H locs cls hl hA
  rw [am_next (am_lt C) hc rfl] at h
  exact h
theorem sd_if_lt {z : Int} {r1 r2 r3 p0 : Nat} (C : am_Ctx b ad D cy X mid p s m args meth c) (hc : am_cd mid j = some (.ifCond .lt z, p0, r1, r2, r3)) (kt : x < 0 → am_G p l e R s m args below meth c Q b ad D cy mid cells slots r1 ls st M) (kf : ¬ (x < 0) → am_G p l e R s m args below meth c Q b ad D cy mid cells slots (j + 1) ls st M) : am_G p l e R s m args below meth c Q b ad D cy mid cells slots j ls (.int x :: st) M := by
  intro H locs cls hl hA
  obtain ⟨hd, hk⟩ := am_fact (am_lt C) hc
  have hp : am_pc mid j = p0 := by unfold am_pc; rw [hc]; rfl
  have ht : ((am_pc mid j : Nat) : Int) + z = (am_pc mid r1 : Int) := by
    rw [hp]
    simp only [am_ck, Bool.and_eq_true, decide_eq_true_eq] at hk
    exact hk.2
  refine lv_if_lt C.1 C.2.1 hd ht (fun h0 => kt h0 H locs cls hl hA) (fun h0 => ?_)
  have h := kf h0 H locs cls hl hA
  rw [am_next (am_lt C) hc rfl] at h
  exact h
theorem sd_icmp_ge {z : Int} {r1 r2 r3 p0 : Nat} (C : am_Ctx b ad D cy X mid p s m args meth c) (hc : am_cd mid j = some (.if_icmp .ge z, p0, r1, r2, r3)) (kt : y ≤ x → am_G p l e R s m args below meth c Q b ad D cy mid cells slots r1 ls st M) (kf : ¬ (y ≤ x) → am_G p l e R s m args below meth c Q b ad D cy mid cells slots (j + 1) ls st M) : am_G p l e R s m args below meth c Q b ad D cy mid cells slots j ls (.int y :: .int x :: st) M := by
  intro H locs cls hl hA
  obtain ⟨hd, hk⟩ := am_fact (am_lt C) hc
  have hp : am_pc mid j = p0 := by unfold am_pc; rw [hc]; rfl
  have ht : ((am_pc mid j : Nat) : Int) + z = (am_pc mid r1 : Int) := by
    rw [hp]
    simp only [am_ck, Bool.and_eq_true, decide_eq_true_eq] at hk
    exact hk.2
  refine lv_icmp_ge C.1 C.2.1 hd ht (fun h0 => kt h0 H locs cls hl hA) (fun h0 => ?_)
  have h := kf h0 H locs cls hl hA
  rw [am_next (am_lt C) hc rfl] at h
  exact h
theorem sd_if_ge {z : Int} {r1 r2 r3 p0 : Nat} (C : am_Ctx b ad D cy X mid p s m args meth c) (hc : am_cd mid j = some (.ifCond .ge z, p0, r1, r2, r3)) (kt : 0 ≤ x → am_G p l e R s m args below meth c Q b ad D cy mid cells slots r1 ls st M) (kf : ¬ (0 ≤ x) → am_G p l e R s m args below meth c Q b ad D cy mid cells slots (j + 1) ls st M) : am_G p l e R s m args below meth c Q b ad D cy mid cells slots j ls (.int x :: st) M := by
  intro H locs cls hl hA
  obtain ⟨hd, hk⟩ := am_fact (am_lt C) hc
  have hp : am_pc mid j = p0 := by unfold am_pc; rw [hc]; rfl
  have ht : ((am_pc mid j : Nat) : Int) + z = (am_pc mid r1 : Int) := by
    rw [hp]
    simp only [am_ck, Bool.and_eq_true, decide_eq_true_eq] at hk
    exact hk.2
  refine lv_if_ge C.1 C.2.1 hd ht (fun h0 => kt h0 H locs cls hl hA) (fun h0 => ?_)
  have h := kf h0 H locs cls hl hA
  rw [am_next (am_lt C) hc rfl] at h
  exact h
theorem sd_icmp_gt {z : Int} {r1 r2 r3 p0 : Nat} (C : am_Ctx b ad D cy X mid p s m args meth c) (hc : am_cd mid j = some (.if_icmp .gt z, p0, r1, r2, r3)) (kt : y < x → am_G p l e R s m args below meth c Q b ad D cy mid cells slots r1 ls st M) (kf : ¬ (y < x) → am_G p l e R s m args below meth c Q b ad D cy mid cells slots (j + 1) ls st M) : am_G p l e R s m args below meth c Q b ad D cy mid cells slots j ls (.int y :: .int x :: st) M := by
  intro H locs cls hl hA
  obtain ⟨hd, hk⟩ := am_fact (am_lt C) hc
  have hp : am_pc mid j = p0 := by unfold am_pc; rw [hc]; rfl
  have ht : ((am_pc mid j : Nat) : Int) + z = (am_pc mid r1 : Int) := by
    rw [hp]
    simp only [am_ck, Bool.and_eq_true, decide_eq_true_eq] at hk
    exact hk.2
  refine lv_icmp_gt C.1 C.2.1 hd ht (fun h0 => kt h0 H locs cls hl hA) (fun h0 => ?_)
  have h := kf h0 H locs cls hl hA
  rw [am_next (am_lt C) hc rfl] at h
  exact h
theorem sd_if_gt {z : Int} {r1 r2 r3 p0 : Nat} (C : am_Ctx b ad D cy X mid p s m args meth c) (hc : am_cd mid j = some (.ifCond .gt z, p0, r1, r2, r3)) (kt : 0 < x → am_G p l e R s m args below meth c Q b ad D cy mid cells slots r1 ls st M) (kf : ¬ (0 < x) → am_G p l e R s m args below meth c Q b ad D cy mid cells slots (j + 1) ls st M) : am_G p l e R s m args below meth c Q b ad D cy mid cells slots j ls (.int x :: st) M := by
  intro H locs cls hl hA
  obtain ⟨hd, hk⟩ := am_fact (am_lt C) hc
  have hp : am_pc mid j = p0 := by unfold am_pc; rw [hc]; rfl
  have ht : ((am_pc mid j : Nat) : Int) + z = (am_pc mid r1 : Int) := by
    rw [hp]
    simp only [am_ck, Bool.and_eq_true, decide_eq_true_eq] at hk
    exact hk.2
  refine lv_if_gt C.1 C.2.1 hd ht (fun h0 => kt h0 H locs cls hl hA) (fun h0 => ?_)
  have h := kf h0 H locs cls hl hA
  rw [am_next (am_lt C) hc rfl] at h
  exact h
theorem sd_icmp_le {z : Int} {r1 r2 r3 p0 : Nat} (C : am_Ctx b ad D cy X mid p s m args meth c) (hc : am_cd mid j = some (.if_icmp .le z, p0, r1, r2, r3)) (kt : x ≤ y → am_G p l e R s m args below meth c Q b ad D cy mid cells slots r1 ls st M) (kf : ¬ (x ≤ y) → am_G p l e R s m args below meth c Q b ad D cy mid cells slots (j + 1) ls st M) : am_G p l e R s m args below meth c Q b ad D cy mid cells slots j ls (.int y :: .int x :: st) M := by
  intro H locs cls hl hA
  obtain ⟨hd, hk⟩ := am_fact (am_lt C) hc
  have hp : am_pc mid j = p0 := by unfold am_pc; rw [hc]; rfl
  have ht : ((am_pc mid j : Nat) : Int) + z = (am_pc mid r1 : Int) := by
    rw [hp]
    simp only [am_ck, Bool.and_eq_true, decide_eq_true_eq] at hk
    exact hk.2
  refine lv_icmp_le C.1 C.2.1 hd ht (fun h0 => kt h0 H locs cls hl hA) (fun h0 => ?_)
  have h := kf h0 H locs cls hl hA
  rw [am_next (am_lt C) hc rfl] at h
  exact h
theorem sd_if_le {z : Int} {r1 r2 r3 p0 : Nat} (C : am_Ctx b ad D cy X mid p s m args meth c) (hc : am_cd mid j = some (.ifCond .le z, p0, r1, r2, r3)) (kt : x ≤ 0 → am_G p l e R s m args below meth c Q b ad D cy mid cells slots r1 ls st M) (kf : ¬ (x ≤ 0) → am_G p l e R s m args below meth c Q b ad D cy mid cells slots (j + 1) ls st M) : am_G p l e R s m args below meth c Q b ad D cy mid cells slots j ls (.int x :: st) M := by
  intro H locs cls hl hA
  obtain ⟨hd, hk⟩ := am_fact (am_lt C) hc
  have hp : am_pc mid j = p0 := by unfold am_pc; rw [hc]; rfl
  have ht : ((am_pc mid j : Nat) : Int) + z = (am_pc mid r1 : Int) := by
    rw [hp]
    simp only [am_ck, Bool.and_eq_true, decide_eq_true_eq] at hk
    exact hk.2
  refine lv_if_le C.1 C.2.1 hd ht (fun h0 => kt h0 H locs cls hl hA) (fun h0 => ?_)
  have h := kf h0 H locs cls hl hA
  rw [am_next (am_lt C) hc rfl] at h
  exact h
theorem sd_goto {z : Int} {r1 r2 r3 p0 : Nat} (C : am_Ctx b ad D cy X mid p s m args meth c) (hc : am_cd mid j = some (.goto z, p0, r1, r2, r3)) (kk : am_G p l e R s m args below meth c Q b ad D cy mid cells slots r1 ls st M) : am_G p l e R s m args below meth c Q b ad D cy mid cells slots j ls st M := by
  intro H locs cls hl hA
  obtain ⟨hd, hk⟩ := am_fact (am_lt C) hc
  have hp : am_pc mid j = p0 := by unfold am_pc; rw [hc]; rfl
  have ht : ((am_pc mid j : Nat) : Int) + z = (am_pc mid r1 : Int) := by
    rw [hp]
    simp only [am_ck, Bool.and_eq_true, decide_eq_true_eq] at hk
    exact hk.2
  exact lv_goto C.1 C.2.1 hd ht (kk H locs cls hl hA)
theorem sd_tsw {df lo hi : Int} {offs : Array Int} {r1 r2 r3 p0 dt t : Nat} {ts : List Nat} (C : am_Ctx b ad D cy X mid p s m args meth c) (hc : am_cd mid j = some (.tableswitch df lo hi offs, p0, r1, r2, r3)) (hs : am_swT[r1]? = some (dt, ts)) (hx : ¬ (x.toInt < lo ∨ hi < x.toInt)) (ht : ts[(x.toInt - lo).toNat]? = some t) (kk : am_G p l e R s m args below meth c Q b ad D cy mid cells slots t ls st M) : am_G p l e R s m args below meth c Q b ad D cy mid cells slots j ls (.int x :: st) M := by
  intro H locs cls hl hA
  obtain ⟨hd, hk⟩ := am_fact (am_lt C) hc
  have hp : am_pc mid j = p0 := by unfold am_pc; rw [hc]; rfl
  simp only [am_ck, hs, Bool.and_eq_true, decide_eq_true_eq] at hk
  have h2 := congrArg (fun l => l[(x.toInt - lo).toNat]?) hk.2.2
  simp only [List.getElem?_map, ht, Option.map_some] at h2
  cases ho : offs.toList[(x.toInt - lo).toNat]? with
  | none => rw [ho] at h2; cases h2
  | some z =>
    rw [ho] at h2
    have h3 : (p0 : Int) + z = (am_pc mid t : Int) := Option.some.inj h2
    exact lv_tableIn C.1 C.2.1 hd (fun h => hx (Or.inl h)) (fun h => hx (Or.inr h)) (by rw [← Array.getElem?_toList]; exact ho) (by rw [hp]; exact h3) (kk H locs cls hl hA)
theorem sd_tswD {df lo hi : Int} {offs : Array Int} {r1 r2 r3 p0 dt : Nat} {ts : List Nat} (C : am_Ctx b ad D cy X mid p s m args meth c) (hc : am_cd mid j = some (.tableswitch df lo hi offs, p0, r1, r2, r3)) (hs : am_swT[r1]? = some (dt, ts)) (hx : x.toInt < lo ∨ hi < x.toInt) (kk : am_G p l e R s m args below meth c Q b ad D cy mid cells slots dt ls st M) : am_G p l e R s m args below meth c Q b ad D cy mid cells slots j ls (.int x :: st) M := by
  intro H locs cls hl hA
  obtain ⟨hd, hk⟩ := am_fact (am_lt C) hc
  have hp : am_pc mid j = p0 := by unfold am_pc; rw [hc]; rfl
  simp only [am_ck, hs, Bool.and_eq_true, decide_eq_true_eq] at hk
  exact lv_tableOut C.1 C.2.1 hd hx (by rw [hp]; exact hk.2.1) (kk H locs cls hl hA)
def am_al (b : Nat) (ad : Nat → Nat) (ls : List Value) : List (Nat × Value) := (List.range ls.length).filterMap (fun i => match (ls[i]? : Option Value) with
  | some (Value.retAddr _) => none
  | some v => some (i, am_cv b ad v)
  | none => none)
theorem am_al_mem {b : Nat} {ad : Nat → Nat} {ls : List Value} {t : Nat × Value} : t ∈ am_al b ad ls ↔ ∃ v, ls[t.1]? = some v ∧ (∀ k, v ≠ Value.retAddr k) ∧ t.2 = am_cv b ad v := by
  unfold am_al
  rw [List.mem_filterMap]
  constructor
  · rintro ⟨i, hi, h⟩
    split at h
    · cases h
    · rename_i v hv hne
      cases h
      exact ⟨v, hne, fun k z => hv k z, rfl⟩
    · cases h
  · rintro ⟨v, hv, hn, h⟩
    refine ⟨t.1, List.mem_range.mpr (List.getElem?_eq_some_iff.mp hv).1, ?_⟩
    rw [hv]
    obtain ⟨i, w⟩ := t
    dsimp only at h hv ⊢
    subst h
    cases v <;> first | rfl | exact absurd rfl (hn _)
theorem am_lr_has {b : Nat} {ad : Nat → Nat} {ls : List Value} {cls : Array Slot} {n : Nat} (h : am_lr b ad ls cls n) : lv_has cls n (am_al b ad ls) := ⟨h.1, h.2.2.1, fun t ht => by
  obtain ⟨v, h1, h2, h3⟩ := am_al_mem.mp ht
  rw [h3]
  exact h.2.2.2 _ _ h1 h2⟩
theorem am_ok1_cat {ls : List Value} {i k : Nat} {v : Value} (h : am_ok1 ls i = true) (hk : k + 1 = i) (hv : ls[k]? = some v) : v.category = 1 := by
  subst hk
  simp only [am_ok1, hv] at h
  exact eq_of_beq h
theorem am_lr_set1 {b : Nat} {ad : Nat → Nat} {ls : List Value} {cls cls' : Array Slot} {n i : Nat} {v : Value} (h : am_lr b ad ls cls n) (ho : am_ok1 ls i = true) (h' : lv_has cls' n ((i, am_cv b ad v) :: (am_al b ad ls).filter (fun q => !(q.1 == i) && !(q.1 + 1 == i && q.2.category == 2)))) : am_lr b ad (ls.set i v) cls' n := by
  refine ⟨h'.1, by rw [List.length_set]; exact h.2.1, h'.2.1, fun k w hk hw => ?_⟩
  rw [List.getElem?_set] at hk
  by_cases e : i = k
  · subst e
    rw [if_pos rfl] at hk
    split at hk
    · rw [← Option.some.inj hk]
      exact h'.2.2 (i, am_cv b ad v) (List.mem_cons_self)
    · cases hk
  · rw [if_neg e] at hk
    refine h'.2.2 (k, am_cv b ad w) (List.mem_cons_of_mem _ (List.mem_filter.mpr ⟨am_al_mem.mpr ⟨w, hk, hw, rfl⟩, ?_⟩))
    have e1 : (k == i) = false := by simp; exact fun z => e z.symm
    by_cases e2 : k + 1 = i
    · have := am_ok1_cat ho e2 hk
      simp [e1, am_cv_cat, this]
    · simp [e1, e2]
theorem am_lr_set2 {b : Nat} {ad : Nat → Nat} {ls : List Value} {cls cls' : Array Slot} {n i : Nat} {v : Value} (h : am_lr b ad ls cls n) (ho : am_ok1 ls i = true) (h' : lv_has cls' n ((i, am_cv b ad v) :: (am_al b ad ls).filter (fun q => !(q.1 == i) && (!(q.1 == i + 1) && !(q.1 + 1 == i && q.2.category == 2))))) : am_lr b ad ((ls.set i v).set (i + 1) (.retAddr 0)) cls' n := by
  refine ⟨h'.1, by rw [List.length_set, List.length_set]; exact h.2.1, h'.2.1, fun k w hk hw => ?_⟩
  rw [List.getElem?_set] at hk
  by_cases e3 : i + 1 = k
  · rw [if_pos e3] at hk
    split at hk
    · cases hk
      exact absurd rfl (hw 0)
    · cases hk
  rw [if_neg e3, List.getElem?_set] at hk
  by_cases e : i = k
  · subst e
    rw [if_pos rfl] at hk
    split at hk
    · rw [← Option.some.inj hk]
      exact h'.2.2 (i, am_cv b ad v) (List.mem_cons_self)
    · cases hk
  · rw [if_neg e] at hk
    refine h'.2.2 (k, am_cv b ad w) (List.mem_cons_of_mem _ (List.mem_filter.mpr ⟨am_al_mem.mpr ⟨w, hk, hw, rfl⟩, ?_⟩))
    have e1 : (k == i) = false := by simp; exact fun z => e z.symm
    have e4 : (k == i + 1) = false := by simp; exact fun z => e3 z.symm
    by_cases e2 : k + 1 = i
    · have := am_ok1_cat ho e2 hk
      simp [e1, e4, am_cv_cat, this]
    · simp [e1, e4, e2]
theorem sd_istore_n {a : Nat} (C : am_Ctx b ad D cy X mid p s m args meth c) (hc : am_cd mid j = some (.istore_n k4, q)) (h1 : k4.val < ls.length) (h2 : am_ok1 ls k4.val = true) (kk : am_G p l e R s m args below meth c Q b ad D cy mid cells slots (j + 1) (ls.set k4.val (.int x)) st M) : am_G p l e R s m args below meth c Q b ad D cy mid cells slots j ls (.int x :: st) M := by
  intro H locs cls hl hA
  have hd := (am_fact (am_lt C) hc).1
  refine lv_istore_n C.1 C.2.1 hd rfl (am_lr_has hl) (by rw [← hl.2.1]; exact h1) rfl (fun cls' h' => ?_)
  have h := kk H locs cls' (am_lr_set1 (v := .int x) hl h2 h') hA
  rw [am_next (am_lt C) hc rfl] at h
  exact h
theorem sd_istore {a : Nat} (C : am_Ctx b ad D cy X mid p s m args meth c) (hc : am_cd mid j = some (.istore i, q)) (h1 : i < ls.length) (h2 : am_ok1 ls i = true) (kk : am_G p l e R s m args below meth c Q b ad D cy mid cells slots (j + 1) (ls.set i (.int x)) st M) : am_G p l e R s m args below meth c Q b ad D cy mid cells slots j ls (.int x :: st) M := by
  intro H locs cls hl hA
  have hd := (am_fact (am_lt C) hc).1
  refine lv_istore C.1 C.2.1 hd (am_lr_has hl) (by rw [← hl.2.1]; exact h1) rfl (fun cls' h' => ?_)
  have h := kk H locs cls' (am_lr_set1 (v := .int x) hl h2 h') hA
  rw [am_next (am_lt C) hc rfl] at h
  exact h
theorem sd_astore_n {a : Nat} (C : am_Ctx b ad D cy X mid p s m args meth c) (hc : am_cd mid j = some (.astore_n k4, q)) (h1 : k4.val < ls.length) (h2 : am_ok1 ls k4.val = true) (kk : am_G p l e R s m args below meth c Q b ad D cy mid cells slots (j + 1) (ls.set k4.val (.ref a)) st M) : am_G p l e R s m args below meth c Q b ad D cy mid cells slots j ls (.ref a :: st) M := by
  intro H locs cls hl hA
  have hd := (am_fact (am_lt C) hc).1
  refine lv_astore_n C.1 C.2.1 hd rfl (am_lr_has hl) (by rw [← hl.2.1]; exact h1) rfl (fun cls' h' => ?_)
  have h := kk H locs cls' (am_lr_set1 (v := .ref a) hl h2 h') hA
  rw [am_next (am_lt C) hc rfl] at h
  exact h
theorem sd_astore {a : Nat} (C : am_Ctx b ad D cy X mid p s m args meth c) (hc : am_cd mid j = some (.astore i, q)) (h1 : i < ls.length) (h2 : am_ok1 ls i = true) (kk : am_G p l e R s m args below meth c Q b ad D cy mid cells slots (j + 1) (ls.set i (.ref a)) st M) : am_G p l e R s m args below meth c Q b ad D cy mid cells slots j ls (.ref a :: st) M := by
  intro H locs cls hl hA
  have hd := (am_fact (am_lt C) hc).1
  refine lv_astore C.1 C.2.1 hd (am_lr_has hl) (by rw [← hl.2.1]; exact h1) rfl (fun cls' h' => ?_)
  have h := kk H locs cls' (am_lr_set1 (v := .ref a) hl h2 h') hA
  rw [am_next (am_lt C) hc rfl] at h
  exact h
theorem sd_lstore_n {a : Nat} (C : am_Ctx b ad D cy X mid p s m args meth c) (hc : am_cd mid j = some (.lstore_n k4, q)) (h1 : k4.val + 1 < ls.length) (h2 : am_ok1 ls k4.val = true) (kk : am_G p l e R s m args below meth c Q b ad D cy mid cells slots (j + 1) ((ls.set k4.val (.long lx)).set (k4.val + 1) (.retAddr 0)) st M) : am_G p l e R s m args below meth c Q b ad D cy mid cells slots j ls (.long lx :: st) M := by
  intro H locs cls hl hA
  have hd := (am_fact (am_lt C) hc).1
  refine lv_lstore_n C.1 C.2.1 hd rfl (am_lr_has hl) (by rw [← hl.2.1]; exact h1) rfl (fun cls' h' => ?_)
  have h := kk H locs cls' (am_lr_set2 (v := .long lx) hl h2 h') hA
  rw [am_next (am_lt C) hc rfl] at h
  exact h
theorem sd_lstore {a : Nat} (C : am_Ctx b ad D cy X mid p s m args meth c) (hc : am_cd mid j = some (.lstore i, q)) (h1 : i + 1 < ls.length) (h2 : am_ok1 ls i = true) (kk : am_G p l e R s m args below meth c Q b ad D cy mid cells slots (j + 1) ((ls.set i (.long lx)).set (i + 1) (.retAddr 0)) st M) : am_G p l e R s m args below meth c Q b ad D cy mid cells slots j ls (.long lx :: st) M := by
  intro H locs cls hl hA
  have hd := (am_fact (am_lt C) hc).1
  refine lv_lstore C.1 C.2.1 hd (am_lr_has hl) (by rw [← hl.2.1]; exact h1) rfl (fun cls' h' => ?_)
  have h := kk H locs cls' (am_lr_set2 (v := .long lx) hl h2 h') hA
  rw [am_next (am_lt C) hc rfl] at h
  exact h
theorem sd_iinc (C : am_Ctx b ad D cy X mid p s m args meth c) (hc : am_cd mid j = some (.iinc i n, q)) (h1 : ls[i]? = some (.int x)) (h2 : am_ok1 ls i = true) (kk : am_G p l e R s m args below meth c Q b ad D cy mid cells slots (j + 1) (ls.set i (.int (x + Int32.ofInt n))) st M) : am_G p l e R s m args below meth c Q b ad D cy mid cells slots j ls st M := by
  intro H locs cls hl hA
  have hd := (am_fact (am_lt C) hc).1
  have hm : ((i, Value.int x) : Nat × Value) ∈ am_al b ad ls := am_al_mem.mpr ⟨.int x, h1, fun k z => (by cases z), rfl⟩
  obtain ⟨t, ht⟩ := List.getElem?_of_mem hm
  refine lv_iinc C.1 C.2.1 hd (am_lr_has hl) ht rfl (by rw [← hl.2.1]; exact (List.getElem?_eq_some_iff.mp h1).1) rfl (fun cls' h' => ?_)
  have h := kk H locs cls' (am_lr_set1 (v := .int (x + Int32.ofInt n)) hl h2 h') hA
  rw [am_next (am_lt C) hc rfl] at h
  exact h
end SND
end
section
/-! ===== fields and arrays ===== -/
theorem am_class {ci : Nat} (h : ci < 12) : ∃ (C : String) (T : u_T) (N : Nat) (ty : Nat → FieldType), am_cl[ci]? = some (C, T, N) ∧ (∀ k, k < N → parseFieldDescriptor (T k).2.2.1 = some (ty k)) ∧ (∀ a, a < N → ∀ b, b < N → a ≠ b → (T a).2.1 ≠ (T b).2.1) := by
  match ci, h with
  | 0, _ => exact ⟨_, _, _, tyX0, rfl, tyX0_ok, nmX0⟩
  | 1, _ => exact ⟨_, _, _, tyX1, rfl, tyX1_ok, nmX1⟩
  | 2, _ => exact ⟨_, _, _, tyX2, rfl, tyX2_ok, nmX2⟩
  | 3, _ => exact ⟨_, _, _, tyX3, rfl, tyX3_ok, nmX3⟩
  | 4, _ => exact ⟨_, _, _, tyX4, rfl, tyX4_ok, nmX4⟩
  | 5, _ => exact ⟨_, _, _, tyX5, rfl, tyX5_ok, nmX5⟩
  | 6, _ => exact ⟨_, _, _, tyX6, rfl, tyX6_ok, nmX6⟩
  | 7, _ => exact ⟨_, _, _, tyX7, rfl, tyX7_ok, nmX7⟩
  | 8, _ => exact ⟨_, _, _, tyX8, rfl, tyX8_ok, nmX8⟩
  | 9, _ => exact ⟨_, _, _, tyX9, rfl, tyX9_ok, nmX9⟩
  | 10, _ => exact ⟨_, _, _, tyX10, rfl, tyX10_ok, nmX10⟩
  | 11, _ => exact ⟨_, _, _, tyX11, rfl, tyX11_ok, nmX11⟩
  | n + 12, h => omega
theorem am_cl_facts {ci : Nat} {C : String} {T : u_T} {N : Nat} (h : ci < 12) (hc : am_cl[ci]? = some (C, T, N)) : C = am_nm ci ∧ Cond.instantiable C N ∈ am_big ∧ Cond.initialized C ∈ am_big ∧ (am_ftT.getD ci []).length = N ∧ (∀ w9 ∈ u_ws C T N, w9 ∈ am_big) ∧ ∀ k, k < N → T k = am_T ci k ∧ (T k).1 = C := by
  have h1 := List.all_eq_true.mp am_cl_ok ci (List.mem_range.mpr h)
  unfold am_clok at h1
  rw [hc] at h1
  cases hh : am_clh[ci]? with
  | none => rw [hh] at h1; cases h1
  | some t9 =>
    obtain ⟨h2, h3, hs⟩ := t9
    rw [hh] at h1
    simp only [Bool.and_eq_true, decide_eq_true_eq, List.all_eq_true, List.mem_range] at h1
    obtain ⟨e1, e2, e3, ⟨e4, e5⟩, e6⟩ := h1
    refine ⟨e1, am_in e2 rfl, am_in e3 rfl, e4, fun w9 hw => ?_, fun k hk => (e6 k hk).2⟩
    obtain ⟨k, hk, rfl⟩ := List.mem_map.mp hw
    refine am_in (e6 k (List.mem_range.mp hk)).1 ?_
    unfold u_lay
    split <;> rfl
theorem am_lk_mem {t c ix u v : Nat} (h : am_lk t c ix u v = true) : am_lkw t c ix u v ∈ am_big := by
  unfold am_lk at h
  rw [List.any_eq_true] at h
  obtain ⟨q9, hq, h1⟩ := h
  obtain ⟨a0, a1, a2, a3, a4, a5⟩ := q9
  simp only [Bool.and_eq_true, beq_iff_eq] at h1
  obtain ⟨rfl, rfl, rfl, rfl, rfl⟩ := h1
  have h2 := List.all_eq_true.mp am_lk_ok _ hq
  simp only [decide_eq_true_eq] at h2
  exact am_in h2.1 h2.2
theorem am_kd_of {M : am_M} {a ci : Nat} (h : am_kd M a = ci) (hc : ci < 1000) : ∃ n, M.1[a]? = some (ci, n) := by
  unfold am_kd at h
  cases hh : M.1[a]? with
  | none => rw [hh] at h; simp at h; omega
  | some t9 =>
    obtain ⟨k9, n9⟩ := t9
    rw [hh] at h
    simp at h
    subst h
    exact ⟨n9, rfl⟩
theorem am_ln_of {M : am_M} {a kd n : Nat} (h : am_ln M a kd = some n) : M.1[a]? = some (kd, n) := by
  unfold am_ln at h
  split at h
  · rename_i k9 n9 hh
    split at h
    · rename_i e9
      cases h
      rw [hh, e9]
    · cases h
  · cases h
theorem am_place {M : am_M} {a : Nat} {t9 : Nat × Nat} (hw : am_wf M) (h : M.1[a]? = some t9) : a < M.1.length ∧ a < 1000000 := by
  have h1 := (List.getElem?_eq_some_iff.mp h).1
  exact ⟨h1, Nat.lt_of_lt_of_le h1 hw.2.1⟩
theorem am_ad_lt {b : Nat} {ad : Nat → Nat} {a : Nat} (h : a < 1000000) : am_ad b ad a = b + a := if_pos h
theorem am_ix_in {i : Int32} {n : Nat} (h : am_ix i n = true) : vp_in i n := by
  simp only [am_ix, Bool.and_eq_true, decide_eq_true_eq] at h
  rintro (h1 | h1)
  · exact absurd h.1 (Int32.not_le.mpr h1)
  · omega
theorem am_cell_obj {cy : Nat → ClassId} {b : Nat} {ad : Nat → Nat} {M : am_M} {a k n : Nat} (h : M.1[a]? = some (k, n)) (hk : k < 100) : am_cell cy b ad M a = .inr (k, (List.range n).map (am_fv b ad M k a)) := by
  unfold am_cell
  rw [h]
  exact if_pos hk
theorem am_cell_int {cy : Nat → ClassId} {b : Nat} {ad : Nat → Nat} {M : am_M} {a k n : Nat} (h : M.1[a]? = some (k, n)) (hk : k = 100 ∨ k = 101 ∨ k = 102) : am_cell cy b ad M a = .inl (cy k, n, .inl (M.2.2.1 a)) := by
  unfold am_cell
  rw [h]
  show (if k < 100 then _ else _) = _
  rw [if_neg (by omega), if_neg (by omega), if_neg (by omega)]
theorem am_cell_long {cy : Nat → ClassId} {b : Nat} {ad : Nat → Nat} {M : am_M} {a n : Nat} (h : M.1[a]? = some (103, n)) : am_cell cy b ad M a = .inl (cy 103, n, .inr (.inl (M.2.2.2 a))) := by
  unfold am_cell
  rw [h]
  rfl
theorem am_cell_ref {cy : Nat → ClassId} {b : Nat} {ad : Nat → Nat} {M : am_M} {a k n : Nat} (h : M.1[a]? = some (k, n)) (hk : k = 104 ∨ k = 105) : am_cell cy b ad M a = .inl (cy k, n, .inr (.inr (.inr (.inr (fun i => (am_rd M.2.1 a i).map (am_ad b ad)))))) := by
  unfold am_cell
  rw [h]
  show (if k < 100 then _ else _) = _
  rw [if_neg (by omega), if_neg (by omega), if_pos hk]
theorem am_cell_congr {cy : Nat → ClassId} {b : Nat} {ad : Nat → Nat} {M M' : am_M} {a : Nat} (h1 : M'.1[a]? = M.1[a]?) (h2 : M'.2.2.1 a = M.2.2.1 a) (h3 : M'.2.2.2 a = M.2.2.2 a) (h4 : ∀ i, am_rd M'.2.1 a i = am_rd M.2.1 a i) : am_cell cy b ad M' a = am_cell cy b ad M a := by
  have hf : ∀ k, am_fv b ad M' k a = am_fv b ad M k a := by
    intro k
    funext i
    unfold am_fv
    rw [h2, h3, h4]
  unfold am_cell
  rw [h1, h2, h3]
  cases M.1[a]? with
  | none => rfl
  | some t9 =>
    obtain ⟨k9, n9⟩ := t9
    dsimp only
    rw [hf, show (fun i => (am_rd M'.2.1 a i).map (am_ad b ad)) = (fun i => (am_rd M.2.1 a i).map (am_ad b ad)) from funext (fun i => by rw [h4])]
theorem u2_ne {α : Type} {f : Nat → Nat → α} {a k q : Nat} {v : α} (h : q ≠ a) : u2 f a k v q = f q := funext (fun i => if_neg h)
theorem u2_at {α : Type} {f : Nat → Nat → α} {a k : Nat} {v : α} : u2 f a k v a = fun i => if i = k then v else f a i := funext (fun i => if_pos rfl)
theorem u2_same {α : Type} {f : Nat → Nat → α} {a k : Nat} {v : α} : u2 f a k v a k = v := by rw [u2_at]; exact if_pos rfl
theorem u2_off {α : Type} {f : Nat → Nat → α} {a k i : Nat} {v : α} (h : i ≠ k) : u2 f a k v a i = f a i := by rw [u2_at]; exact if_neg h
theorem am_rd_wr {mr : List (List (Option Nat))} {a k q i : Nat} {r : Option Nat} (ha : a < mr.length) (hk : k < (mr[a]?.getD []).length) : am_rd (am_wr mr a k r) q i = if q = a ∧ i = k then r else am_rd mr q i := by
  unfold am_rd am_wr
  rw [List.getElem?_set]
  by_cases h : a = q
  · subst h
    rw [if_pos rfl, if_pos ha]
    simp only [Option.getD_some]
    rw [List.getElem?_set]
    by_cases h2 : k = i
    · subst h2
      rw [if_pos rfl, if_pos hk]
      simp
    · rw [if_neg h2, if_neg (fun z => h2 z.2.symm)]
  · rw [if_neg h, if_neg (fun z => h z.1.symm)]
theorem am_set_map {α : Type} {f g : Nat → α} {n k : Nat} (h : ∀ i, i ≠ k → g i = f i) : (List.range n).map g = ((List.range n).map f).set k (g k) := by
  apply List.ext_getElem?
  intro i
  rw [List.getElem?_set]
  simp only [List.getElem?_map, List.length_map, List.length_range]
  by_cases e9 : k = i
  · subst e9
    rw [if_pos rfl]
    split
    · rename_i hl
      rw [List.getElem?_range hl]
      rfl
    · rename_i hl
      rw [List.getElem?_eq_none (by rw [List.length_range]; omega)]
      rfl
  · rw [if_neg e9]
    by_cases hl : i < n
    · rw [List.getElem?_range hl]
      simp only [Option.map_some]
      rw [h i (Ne.symm e9)]
    · rw [List.getElem?_eq_none (by rw [List.length_range]; omega)]
      rfl
theorem am_ty_of {c k : Nat} (hc : c < 12) (hk : k < (am_ftT.getD c []).length) : match (am_ftT.getD c []).getD k 9, parseFieldDescriptor (am_T c k).2.2.1 with
  | 0, some .int => True
  | 1, some .long => True
  | 2, some (.object _) => True
  | 2, some (.array _) => True
  | _, _ => False := by
  have h1 := List.all_eq_true.mp am_ty_ok c (List.mem_range.mpr hc)
  unfold am_tyok at h1
  have h2 := List.all_eq_true.mp h1 k (List.mem_range.mpr hk)
  revert h2
  split
  · rename_i e1 e2
    intro _
    rw [e1, e2]
    trivial
  · rename_i e1 e2
    intro _
    rw [e1, e2]
    trivial
  · rename_i e1 e2
    intro _
    rw [e1, e2]
    trivial
  · rename_i e1 e2
    intro _
    rw [e1, e2]
    trivial
  · intro h9
    cases h9
theorem am_getD_eq {l9 : List Nat} {k u v : Nat} (hk : k < l9.length) : l9.getD k u = l9.getD k v := by
  simp [List.getD_eq_getElem?_getD, List.getElem?_eq_getElem hk]
section SN2
variable {p : Program} {l : Launch} {e : Env} {R : Room} {s : State} {m : MethodId} {args : Array Value} {below : List Frame} {meth : Method} {c : Code} {Q : State → Prop}
variable {b : Nat} {ad : Nat → Nat} {D : va_G} {cy : Nat → ClassId} {X : Nat × (Nat → Int32)} {mid cells slots j : Nat} {ls st : List Value} {M : am_M} {q : Nat × Nat × Nat × Nat} {x y : Int32} {lx ly : Int64} {a : Nat}

theorem sd_get {ix r1 r2 r3 p0 : Nat} {w9 : Value} (C : am_Ctx b ad D cy X mid p s m args meth c) (hc : am_cd mid j = some (.getfield ix, p0, r1, r2, r3)) (hk : am_kd M a = r1) (hw : am_cv b ad w9 = am_fv b ad M r1 a r2) (kk : am_G p l e R s m args below meth c Q b ad D cy mid cells slots (j + 1) ls (w9 :: st) M) : am_G p l e R s m args below meth c Q b ad D cy mid cells slots j ls (.ref a :: st) M := by
  intro H locs cls hl hA
  obtain ⟨hd, hck⟩ := am_fact (am_lt C) hc
  have h := kk H locs cls hl hA
  rw [am_next (am_lt C) hc rfl] at h
  simp only [am_ck, Bool.and_eq_true] at hck
  obtain ⟨-, hlk, hfd⟩ := hck
  simp only [am_fdok, decide_eq_true_eq] at hfd
  obtain ⟨h12, hlt, -⟩ := hfd
  obtain ⟨n, hn⟩ := am_kd_of hk (by omega)
  obtain ⟨hp1, hp2⟩ := am_place hA.2.2.1 hn
  obtain ⟨Cn, T, N, ty, hcl, hty, hnm⟩ := am_class h12
  obtain ⟨e1, -, -, e4, e5, e6⟩ := am_cl_facts h12 hcl
  have hnN : n = N := by rw [← e4]; exact (hA.2.2.1.2.2.1 a r1 n hn (by omega)).2
  have hkN : r2 < N := by rw [← e4]; exact hlt
  have hlink := C.2.2.2.2.1 _ (am_lk_mem hlk)
  simp only [am_lkw, ← (e6 r2 hkN).1] at hlink
  have hcell : am_cell cy b ad M a = .inr (r1, (List.range n).map (am_fv b ad M r1 a)) := am_cell_obj hn (by omega)
  have he : (am_ws cy b ad M)[a]? = some (b + a, .inr (r1, (List.range n).map (am_fv b ad M r1 a))) := by rw [am_ws_get hp1, hcell]
  show W p l e R s m args below meth c H locs cells slots Q (F0 m (am_pc mid j) cls (.ref (am_ad b ad a) :: st.map (am_cv b ad)))
  rw [am_ad_lt hp2]
  refine va_get (v := am_cv b ad w9) C.1 C.2.1 C.2.2.2.2.1 e5 C.2.2.2.1 C.2.2.2.2.2.2.2.2.1.1 hA.1 a he hcl r2 hkN hlink (fun _ z => z) ?_ hd h
  rw [hw, List.getElem?_map, List.getElem?_range (by omega)]
  rfl
theorem sd_put {ix r1 r2 r3 p0 : Nat} {w9 : Value} {M' : am_M} (C : am_Ctx b ad D cy X mid p s m args meth c) (hc : am_cd mid j = some (.putfield ix, p0, r1, r2, r3)) (hk : am_kd M a = r1) (h1 : M'.1 = M.1) (h0 : M'.2.1.length = M.2.1.length) (hq : ∀ q9, q9 ≠ a → am_cell cy b ad M' q9 = am_cell cy b ad M q9) (hw : am_fv b ad M' r1 a r2 = am_cv b ad w9) (ho : ∀ i9, i9 ≠ r2 → am_fv b ad M' r1 a i9 = am_fv b ad M r1 a i9)
    (hv : ∀ ty : FieldType, parseFieldDescriptor (am_T r1 r2).2.2.1 = some ty → narrow ty (am_cv b ad w9) = am_cv b ad w9 ∧ fits ty (am_cv b ad w9) = true) (kk : am_G p l e R s m args below meth c Q b ad D cy mid cells slots (j + 1) ls st M') : am_G p l e R s m args below meth c Q b ad D cy mid cells slots j ls (w9 :: .ref a :: st) M := by
  intro H locs cls hl hA
  obtain ⟨hd, hck⟩ := am_fact (am_lt C) hc
  simp only [am_ck, Bool.and_eq_true] at hck
  obtain ⟨-, hlk, hfd, hfin⟩ := hck
  simp only [am_fdok, decide_eq_true_eq] at hfd
  obtain ⟨h12, hlt, -⟩ := hfd
  obtain ⟨n, hn⟩ := am_kd_of hk (by omega)
  obtain ⟨hp1, hp2⟩ := am_place hA.2.2.1 hn
  obtain ⟨Cn, T, N, ty, hcl, hty, hnm⟩ := am_class h12
  obtain ⟨e1, -, -, e4, e5, e6⟩ := am_cl_facts h12 hcl
  have hnN : n = N := by rw [← e4]; exact (hA.2.2.1.2.2.1 a r1 n hn (by omega)).2
  have hkN : r2 < N := by rw [← e4]; exact hlt
  have hlink := C.2.2.2.2.1 _ (am_lk_mem hlk)
  simp only [am_lkw, ← (e6 r2 hkN).1] at hlink
  have he : (am_ws cy b ad M)[a]? = some (b + a, .inr (r1, (List.range n).map (am_fv b ad M r1 a))) := by rw [am_ws_get hp1, am_cell_obj hn (by omega)]
  have hty2 := hty r2 hkN
  obtain ⟨hnar, hfit⟩ := hv (ty r2) (by rw [← (e6 r2 hkN).1]; exact hty2)
  have hws : am_ws cy b ad M' = (am_ws cy b ad M).set a (b + a, .inr (r1, ((List.range n).map (am_fv b ad M r1 a)).set r2 (am_cv b ad w9))) := by
    refine am_ws_set (by rw [h1]) hq ?_
    rw [am_cell_obj (M := M') (by rw [h1]; exact hn) (by omega), am_set_map ho, hw]
  have hwf : am_wf M' := ⟨by rw [h0, h1]; exact hA.2.2.1.1, by rw [h1]; exact hA.2.2.1.2.1, by rw [h1]; exact hA.2.2.1.2.2.1, by rw [h1]; exact hA.2.2.1.2.2.2⟩
  have go : ∀ (H1 : Heap) (locs1 : List Loc), va_P D am_cl ((am_ws cy b ad M).set a (b + a, .inr (r1, ((List.range n).map (am_fv b ad M r1 a)).set r2 (am_cv b ad w9)))) H1 → va_S (am_A b) s.heap H1 locs1 → W p l e R s m args below meth c H1 locs1 cells slots Q (F0 m (am_pc mid j + 3) cls (st.map (am_cv b ad))) := by
    intro H1 locs1 hP hS
    have h := kk H1 locs1 cls hl ⟨by rw [hws]; exact hP, by rw [h1]; exact hA.2.1, hwf, hS⟩
    rw [am_next (am_lt C) hc rfl] at h
    exact h
  show W p l e R s m args below meth c H locs cells slots Q (F0 m (am_pc mid j) cls (am_cv b ad w9 :: .ref (am_ad b ad a) :: st.map (am_cv b ad)))
  rw [am_ad_lt hp2]
  have hfl : r2 < ((List.range n).map (am_fv b ad M r1 a)).length := by rw [List.length_map, List.length_range]; omega
  cases hff : (T r2).2.2.2 with
  | false => exact va_put C.1 C.2.1 C.2.2.2.2.1 e5 ty hty hnm C.2.2.2.1 C.2.2.2.2.2.2.2.2.1.1 hA.1 (am_ws_D cy b ad M) hA.2.2.2 a he hcl r2 hkN hlink (fun _ z => z) hff hty2 hnar hfit hfl hd (fun H1 locs1 h7 _ h9 => go H1 locs1 h7 h9)
  | true =>
    rw [← (e6 r2 hkN).1, hff] at hfin
    simp only [Bool.or_eq_true, Bool.and_eq_true, beq_iff_eq] at hfin
    rcases hfin with hfin | ⟨f1, f2⟩
    · cases hfin
    · exact va_putF C.1 C.2.1 C.2.2.2.2.1 e5 ty hty hnm C.2.2.2.1 C.2.2.2.2.2.2.2.2.1.1 hA.1 (am_ws_D cy b ad M) hA.2.2.2 a he hcl r2 hkN hlink (fun _ z => z) hff (C.2.2.2.2.2.2.2.1 f1) (by rw [(e6 r2 hkN).2, e1, f2]) hty2 hnar hfit hfl hd (fun H1 locs1 h7 _ h9 => go H1 locs1 h7 h9)
theorem sd_iald {n : Nat} (C : am_Ctx b ad D cy X mid p s m args meth c) (hc : am_cd mid j = some (.iaload, q)) (ha : am_ln M a 100 = some n) (hi : am_ix x n = true) (kk : am_G p l e R s m args below meth c Q b ad D cy mid cells slots (j + 1) ls (.int (M.2.2.1 a x.toNatClampNeg) :: st) M) : am_G p l e R s m args below meth c Q b ad D cy mid cells slots j ls (.int x :: .ref a :: st) M := by
  intro H locs cls hl hA
  obtain ⟨hd, -⟩ := am_fact (am_lt C) hc
  have hn := am_ln_of ha
  obtain ⟨hp1, hp2⟩ := am_place hA.2.2.1 hn
  have hK := C.2.2.2.2.2.2.2.2.1.1
  have h := kk H locs cls hl hA
  rw [am_next (am_lt C) hc rfl] at h
  have he := am_ws_get (cy := cy) (b := b) (ad := ad) hp1
  rw [am_cell_int hn (Or.inl rfl)] at he
  show W p l e R s m args below meth c H locs cells slots Q (F0 m (am_pc mid j) cls (.int x :: .ref (am_ad b ad a) :: st.map (am_cv b ad)))
  rw [am_ad_lt hp2]
  exact va_iald C.1 C.2.1 hK hA.1 a 0 he rfl (am_ix_in hi) hd h
theorem sd_bald {n : Nat} (C : am_Ctx b ad D cy X mid p s m args meth c) (hc : am_cd mid j = some (.baload, q)) (ha : am_ln M a 101 = some n) (hi : am_ix x n = true) (kk : am_G p l e R s m args below meth c Q b ad D cy mid cells slots (j + 1) ls (.int (M.2.2.1 a x.toNatClampNeg) :: st) M) : am_G p l e R s m args below meth c Q b ad D cy mid cells slots j ls (.int x :: .ref a :: st) M := by
  intro H locs cls hl hA
  obtain ⟨hd, -⟩ := am_fact (am_lt C) hc
  have hn := am_ln_of ha
  obtain ⟨hp1, hp2⟩ := am_place hA.2.2.1 hn
  have hK := C.2.2.2.2.2.2.2.2.1.1
  have h := kk H locs cls hl hA
  rw [am_next (am_lt C) hc rfl] at h
  have he := am_ws_get (cy := cy) (b := b) (ad := ad) hp1
  rw [am_cell_int hn (Or.inr (Or.inl rfl))] at he
  show W p l e R s m args below meth c H locs cells slots Q (F0 m (am_pc mid j) cls (.int x :: .ref (am_ad b ad a) :: st.map (am_cv b ad)))
  rw [am_ad_lt hp2]
  exact va_bald C.1 C.2.1 hK hA.1 a 1 he rfl (am_ix_in hi) hd h
theorem sd_zald {n : Nat} (C : am_Ctx b ad D cy X mid p s m args meth c) (hc : am_cd mid j = some (.baload, q)) (ha : am_ln M a 102 = some n) (hi : am_ix x n = true) (kk : am_G p l e R s m args below meth c Q b ad D cy mid cells slots (j + 1) ls (.int (M.2.2.1 a x.toNatClampNeg) :: st) M) : am_G p l e R s m args below meth c Q b ad D cy mid cells slots j ls (.int x :: .ref a :: st) M := by
  intro H locs cls hl hA
  obtain ⟨hd, -⟩ := am_fact (am_lt C) hc
  have hn := am_ln_of ha
  obtain ⟨hp1, hp2⟩ := am_place hA.2.2.1 hn
  have hK := C.2.2.2.2.2.2.2.2.1.1
  have h := kk H locs cls hl hA
  rw [am_next (am_lt C) hc rfl] at h
  have he := am_ws_get (cy := cy) (b := b) (ad := ad) hp1
  rw [am_cell_int hn (Or.inr (Or.inr rfl))] at he
  show W p l e R s m args below meth c H locs cells slots Q (F0 m (am_pc mid j) cls (.int x :: .ref (am_ad b ad a) :: st.map (am_cv b ad)))
  rw [am_ad_lt hp2]
  exact va_zald C.1 C.2.1 hK hA.1 a 2 he rfl (am_ix_in hi) hd h
theorem sd_lald {n : Nat} (C : am_Ctx b ad D cy X mid p s m args meth c) (hc : am_cd mid j = some (.laload, q)) (ha : am_ln M a 103 = some n) (hi : am_ix x n = true) (kk : am_G p l e R s m args below meth c Q b ad D cy mid cells slots (j + 1) ls (.long (M.2.2.2 a x.toNatClampNeg) :: st) M) : am_G p l e R s m args below meth c Q b ad D cy mid cells slots j ls (.int x :: .ref a :: st) M := by
  intro H locs cls hl hA
  obtain ⟨hd, -⟩ := am_fact (am_lt C) hc
  have hn := am_ln_of ha
  obtain ⟨hp1, hp2⟩ := am_place hA.2.2.1 hn
  have hK := C.2.2.2.2.2.2.2.2.1.1
  have h := kk H locs cls hl hA
  rw [am_next (am_lt C) hc rfl] at h
  have he := am_ws_get (cy := cy) (b := b) (ad := ad) hp1
  rw [am_cell_long hn] at he
  show W p l e R s m args below meth c H locs cells slots Q (F0 m (am_pc mid j) cls (.int x :: .ref (am_ad b ad a) :: st.map (am_cv b ad)))
  rw [am_ad_lt hp2]
  exact va_lald C.1 C.2.1 hK hA.1 a 3 he rfl (am_ix_in hi) hd h
theorem am_rv_cv (b : Nat) (ad : Nat → Nat) (r : Option Nat) : am_cv b ad (am_rv r) = va_rf (r.map (am_ad b ad)) := by cases r <;> rfl
theorem sd_aald {n k9 : Nat} (C : am_Ctx b ad D cy X mid p s m args meth c) (hc : am_cd mid j = some (.aaload, q)) (hk9 : k9 = 104 ∨ k9 = 105) (ha : am_ln M a k9 = some n) (hi : am_ix x n = true) (kk : am_G p l e R s m args below meth c Q b ad D cy mid cells slots (j + 1) ls (am_rv (am_rd M.2.1 a x.toNatClampNeg) :: st) M) : am_G p l e R s m args below meth c Q b ad D cy mid cells slots j ls (.int x :: .ref a :: st) M := by
  intro H locs cls hl hA
  obtain ⟨hd, -⟩ := am_fact (am_lt C) hc
  have hn := am_ln_of ha
  obtain ⟨hp1, hp2⟩ := am_place hA.2.2.1 hn
  have hK := C.2.2.2.2.2.2.2.2.1.1
  have h := kk H locs cls hl hA
  rw [am_next (am_lt C) hc rfl, List.map_cons, am_rv_cv] at h
  have he := am_ws_get (cy := cy) (b := b) (ad := ad) hp1
  rw [am_cell_ref hn hk9] at he
  show W p l e R s m args below meth c H locs cells slots Q (F0 m (am_pc mid j) cls (.int x :: .ref (am_ad b ad a) :: st.map (am_cv b ad)))
  rw [am_ad_lt hp2]
  rcases hk9 with rfl | rfl
  · exact va_aldq C.1 C.2.1 hK hA.1 a 4 he rfl (am_ix_in hi) hd h
  · have hin := am_ix_in hi
    have hlt : x.toNatClampNeg < n := Nat.not_le.mp fun z => hin (Or.inr z)
    exact W.aald (ty := .array .int) C.1 C.2.1 (hA.1 a _ he) ((hK.2 5 _ rfl).1 n _) rfl (fun z => by cases z) (by show ¬ (x < 0 ∨ (arrV _ _ _).slots.size ≤ _); rw [arrV_size]; exact hin) (by show (arrV _ _ _).slots[_]? = _; rw [arrV_read _ _ hlt]) rfl rfl hd h
theorem sd_iast {n : Nat} (C : am_Ctx b ad D cy X mid p s m args meth c) (hc : am_cd mid j = some (.iastore, q)) (ha : am_ln M a 100 = some n) (hi : am_ix x n = true) (kk : am_G p l e R s m args below meth c Q b ad D cy mid cells slots (j + 1) ls st (M.1, M.2.1, u2 M.2.2.1 a x.toNatClampNeg y, M.2.2.2)) : am_G p l e R s m args below meth c Q b ad D cy mid cells slots j ls (.int y :: .int x :: .ref a :: st) M := by
  intro H locs cls hl hA
  obtain ⟨hd, -⟩ := am_fact (am_lt C) hc
  have hn := am_ln_of ha
  obtain ⟨hp1, hp2⟩ := am_place hA.2.2.1 hn
  have hK := C.2.2.2.2.2.2.2.2.1.1
  have he := am_ws_get (cy := cy) (b := b) (ad := ad) hp1
  rw [am_cell_int hn (Or.inl rfl)] at he
  have hws : am_ws cy b ad (M.1, M.2.1, u2 M.2.2.1 a x.toNatClampNeg y, M.2.2.2) = (am_ws cy b ad M).set a (b + a, .inl (cy 100, n, .inl (upd (M.2.2.1 a) x.toNatClampNeg y))) := by
    refine am_ws_set rfl (fun q9 hq9 => am_cell_congr rfl (u2_ne hq9) rfl (fun i9 => rfl)) ?_
    rw [am_cell_int (M := (M.1, M.2.1, u2 M.2.2.1 a x.toNatClampNeg y, M.2.2.2)) hn (Or.inl rfl)]
    dsimp only; rw [show u2 M.2.2.1 a x.toNatClampNeg y a = upd (M.2.2.1 a) x.toNatClampNeg y from u2_at]
  show W p l e R s m args below meth c H locs cells slots Q (F0 m (am_pc mid j) cls (.int y :: .int x :: .ref (am_ad b ad a) :: st.map (am_cv b ad)))
  rw [am_ad_lt hp2]
  refine va_iast C.1 C.2.1 hK hA.1 (am_ws_D cy b ad M) hA.2.2.2 a 0 he rfl (am_ix_in hi) hd (fun H1 locs1 h7 _ h9 => ?_)
  have h := kk H1 locs1 cls hl ⟨by rw [hws]; exact h7, hA.2.1, hA.2.2.1, h9⟩
  rw [am_next (am_lt C) hc rfl] at h
  exact h
theorem sd_bast {n : Nat} (C : am_Ctx b ad D cy X mid p s m args meth c) (hc : am_cd mid j = some (.bastore, q)) (ha : am_ln M a 101 = some n) (hi : am_ix x n = true) (kk : am_G p l e R s m args below meth c Q b ad D cy mid cells slots (j + 1) ls st (M.1, M.2.1, u2 M.2.2.1 a x.toNatClampNeg (vp_nar .byte y), M.2.2.2)) : am_G p l e R s m args below meth c Q b ad D cy mid cells slots j ls (.int y :: .int x :: .ref a :: st) M := by
  intro H locs cls hl hA
  obtain ⟨hd, -⟩ := am_fact (am_lt C) hc
  have hn := am_ln_of ha
  obtain ⟨hp1, hp2⟩ := am_place hA.2.2.1 hn
  have hK := C.2.2.2.2.2.2.2.2.1.1
  have he := am_ws_get (cy := cy) (b := b) (ad := ad) hp1
  rw [am_cell_int hn (Or.inr (Or.inl rfl))] at he
  have hws : am_ws cy b ad (M.1, M.2.1, u2 M.2.2.1 a x.toNatClampNeg (vp_nar .byte y), M.2.2.2) = (am_ws cy b ad M).set a (b + a, .inl (cy 101, n, .inl (upd (M.2.2.1 a) x.toNatClampNeg (vp_nar .byte y)))) := by
    refine am_ws_set rfl (fun q9 hq9 => am_cell_congr rfl (u2_ne hq9) rfl (fun i9 => rfl)) ?_
    rw [am_cell_int (M := (M.1, M.2.1, u2 M.2.2.1 a x.toNatClampNeg (vp_nar .byte y), M.2.2.2)) hn (Or.inr (Or.inl rfl))]
    dsimp only; rw [show u2 M.2.2.1 a x.toNatClampNeg (vp_nar .byte y) a = upd (M.2.2.1 a) x.toNatClampNeg (vp_nar .byte y) from u2_at]
  show W p l e R s m args below meth c H locs cells slots Q (F0 m (am_pc mid j) cls (.int y :: .int x :: .ref (am_ad b ad a) :: st.map (am_cv b ad)))
  rw [am_ad_lt hp2]
  refine va_bast C.1 C.2.1 hK hA.1 (am_ws_D cy b ad M) hA.2.2.2 a 1 he rfl (am_ix_in hi) hd (fun H1 locs1 h7 _ h9 => ?_)
  have h := kk H1 locs1 cls hl ⟨by rw [hws]; exact h7, hA.2.1, hA.2.2.1, h9⟩
  rw [am_next (am_lt C) hc rfl] at h
  exact h
theorem sd_zast {n : Nat} (C : am_Ctx b ad D cy X mid p s m args meth c) (hc : am_cd mid j = some (.bastore, q)) (ha : am_ln M a 102 = some n) (hi : am_ix x n = true) (kk : am_G p l e R s m args below meth c Q b ad D cy mid cells slots (j + 1) ls st (M.1, M.2.1, u2 M.2.2.1 a x.toNatClampNeg (vp_nar .boolean y), M.2.2.2)) : am_G p l e R s m args below meth c Q b ad D cy mid cells slots j ls (.int y :: .int x :: .ref a :: st) M := by
  intro H locs cls hl hA
  obtain ⟨hd, -⟩ := am_fact (am_lt C) hc
  have hn := am_ln_of ha
  obtain ⟨hp1, hp2⟩ := am_place hA.2.2.1 hn
  have hK := C.2.2.2.2.2.2.2.2.1.1
  have he := am_ws_get (cy := cy) (b := b) (ad := ad) hp1
  rw [am_cell_int hn (Or.inr (Or.inr rfl))] at he
  have hws : am_ws cy b ad (M.1, M.2.1, u2 M.2.2.1 a x.toNatClampNeg (vp_nar .boolean y), M.2.2.2) = (am_ws cy b ad M).set a (b + a, .inl (cy 102, n, .inl (upd (M.2.2.1 a) x.toNatClampNeg (vp_nar .boolean y)))) := by
    refine am_ws_set rfl (fun q9 hq9 => am_cell_congr rfl (u2_ne hq9) rfl (fun i9 => rfl)) ?_
    rw [am_cell_int (M := (M.1, M.2.1, u2 M.2.2.1 a x.toNatClampNeg (vp_nar .boolean y), M.2.2.2)) hn (Or.inr (Or.inr rfl))]
    dsimp only; rw [show u2 M.2.2.1 a x.toNatClampNeg (vp_nar .boolean y) a = upd (M.2.2.1 a) x.toNatClampNeg (vp_nar .boolean y) from u2_at]
  show W p l e R s m args below meth c H locs cells slots Q (F0 m (am_pc mid j) cls (.int y :: .int x :: .ref (am_ad b ad a) :: st.map (am_cv b ad)))
  rw [am_ad_lt hp2]
  refine va_zast C.1 C.2.1 hK hA.1 (am_ws_D cy b ad M) hA.2.2.2 a 2 he rfl (am_ix_in hi) hd (fun H1 locs1 h7 _ h9 => ?_)
  have h := kk H1 locs1 cls hl ⟨by rw [hws]; exact h7, hA.2.1, hA.2.2.1, h9⟩
  rw [am_next (am_lt C) hc rfl] at h
  exact h
theorem sd_last {n : Nat} (C : am_Ctx b ad D cy X mid p s m args meth c) (hc : am_cd mid j = some (.lastore, q)) (ha : am_ln M a 103 = some n) (hi : am_ix x n = true) (kk : am_G p l e R s m args below meth c Q b ad D cy mid cells slots (j + 1) ls st (M.1, M.2.1, M.2.2.1, u2 M.2.2.2 a x.toNatClampNeg ly)) : am_G p l e R s m args below meth c Q b ad D cy mid cells slots j ls (.long ly :: .int x :: .ref a :: st) M := by
  intro H locs cls hl hA
  obtain ⟨hd, -⟩ := am_fact (am_lt C) hc
  have hn := am_ln_of ha
  obtain ⟨hp1, hp2⟩ := am_place hA.2.2.1 hn
  have hK := C.2.2.2.2.2.2.2.2.1.1
  have he := am_ws_get (cy := cy) (b := b) (ad := ad) hp1
  rw [am_cell_long hn] at he
  have hws : am_ws cy b ad (M.1, M.2.1, M.2.2.1, u2 M.2.2.2 a x.toNatClampNeg ly) = (am_ws cy b ad M).set a (b + a, .inl (cy 103, n, .inr (.inl (vp_updL (M.2.2.2 a) x.toNatClampNeg ly)))) := by
    refine am_ws_set rfl (fun q9 hq9 => am_cell_congr rfl rfl (u2_ne hq9) (fun i9 => rfl)) ?_
    rw [am_cell_long (M := (M.1, M.2.1, M.2.2.1, u2 M.2.2.2 a x.toNatClampNeg ly)) hn]
    dsimp only; rw [show u2 M.2.2.2 a x.toNatClampNeg ly a = vp_updL (M.2.2.2 a) x.toNatClampNeg ly from u2_at]
  show W p l e R s m args below meth c H locs cells slots Q (F0 m (am_pc mid j) cls (.long ly :: .int x :: .ref (am_ad b ad a) :: st.map (am_cv b ad)))
  rw [am_ad_lt hp2]
  refine va_last C.1 C.2.1 hK hA.1 (am_ws_D cy b ad M) hA.2.2.2 a 3 he rfl (am_ix_in hi) hd (fun H1 locs1 h7 _ h9 => ?_)
  have h := kk H1 locs1 cls hl ⟨by rw [hws]; exact h7, hA.2.1, hA.2.2.1, h9⟩
  rw [am_next (am_lt C) hc rfl] at h
  exact h
theorem sd_aast {n v9 : Nat} (C : am_Ctx b ad D cy X mid p s m args meth c) (hc : am_cd mid j = some (.aastore, q)) (ha : am_ln M a 104 = some n) (hi : am_ix x n = true) (hv9 : am_kd M v9 = 8) (hr : x.toNatClampNeg < (M.2.1[a]?.getD []).length) (kk : am_G p l e R s m args below meth c Q b ad D cy mid cells slots (j + 1) ls st (M.1, am_wr M.2.1 a x.toNatClampNeg (some v9), M.2.2.1, M.2.2.2)) : am_G p l e R s m args below meth c Q b ad D cy mid cells slots j ls (.ref v9 :: .int x :: .ref a :: st) M := by
  intro H locs cls hl hA
  obtain ⟨hd, -⟩ := am_fact (am_lt C) hc
  have hn := am_ln_of ha
  obtain ⟨hp1, hp2⟩ := am_place hA.2.2.1 hn
  have hK := C.2.2.2.2.2.2.2.2.1.1
  have he := am_ws_get (cy := cy) (b := b) (ad := ad) hp1
  rw [am_cell_ref hn (Or.inl rfl)] at he
  obtain ⟨n2, hn2⟩ := am_kd_of hv9 (by omega)
  obtain ⟨hq1, hq2⟩ := am_place hA.2.2.1 hn2
  have he2 := am_ws_get (cy := cy) (b := b) (ad := ad) hq1
  rw [am_cell_obj hn2 (by omega)] at he2
  have hla : a < M.2.1.length := by rw [hA.2.2.1.1]; exact hp1
  have hws : am_ws cy b ad (M.1, am_wr M.2.1 a x.toNatClampNeg (some v9), M.2.2.1, M.2.2.2) = (am_ws cy b ad M).set a (b + a, .inl (cy 104, n, .inr (.inr (.inr (.inr (va_up (fun i => (am_rd M.2.1 a i).map (am_ad b ad)) x.toNatClampNeg (some (b + v9)))))))) := by
    refine am_ws_set rfl (fun q9 hq9 => am_cell_congr rfl rfl rfl (fun i9 => ?_)) ?_
    · rw [am_rd_wr hla hr, if_neg (fun z => hq9 z.1)]
    · rw [am_cell_ref (M := (M.1, am_wr M.2.1 a x.toNatClampNeg (some v9), M.2.2.1, M.2.2.2)) hn (Or.inl rfl)]
      congr 7
      funext i9
      show (am_rd (am_wr M.2.1 a x.toNatClampNeg (some v9)) a i9).map (am_ad b ad) = _
      rw [am_rd_wr hla hr]
      unfold va_up
      by_cases e9 : i9 = x.toNatClampNeg
      · rw [if_pos ⟨rfl, e9⟩, if_pos e9]
        show some (am_ad b ad v9) = _
        rw [am_ad_lt hq2]
      · rw [if_neg (fun z => e9 z.2), if_neg e9]
  have hwf : am_wf (M.1, am_wr M.2.1 a x.toNatClampNeg (some v9), M.2.2.1, M.2.2.2) := ⟨by show (am_wr M.2.1 a x.toNatClampNeg (some v9)).length = M.1.length; unfold am_wr; rw [List.length_set]; exact hA.2.2.1.1, hA.2.2.1.2⟩
  show W p l e R s m args below meth c H locs cells slots Q (F0 m (am_pc mid j) cls (.ref (am_ad b ad v9) :: .int x :: .ref (am_ad b ad a) :: st.map (am_cv b ad)))
  rw [am_ad_lt hp2, am_ad_lt hq2]
  refine va_astq C.1 C.2.1 hK hA.1 (am_ws_D cy b ad M) hA.2.2.2 a 4 v9 8 he (r := (RX8, TX8, 8)) rfl he2 rfl (am_ix_in hi) hd (fun H1 locs1 h7 _ h9 => ?_)
  have h := kk H1 locs1 cls hl ⟨by rw [hws]; exact h7, hA.2.1, hwf, h9⟩
  rw [am_next (am_lt C) hc rfl] at h
  exact h
theorem sd_ialdX (C : am_Ctx b ad D cy X mid p s m args meth c) (hc : am_cd mid j = some (.iaload, q)) (hi : am_ix x X.1 = true) (kk : am_G p l e R s m args below meth c Q b ad D cy mid cells slots (j + 1) ls (.int (X.2 x.toNatClampNeg) :: st) M) : am_G p l e R s m args below meth c Q b ad D cy mid cells slots j ls (.int x :: .ref 1000050 :: st) M := by
  intro H locs cls hl hA
  obtain ⟨hd, -⟩ := am_fact (am_lt C) hc
  have h := kk H locs cls hl hA
  rw [am_next (am_lt C) hc rfl] at h
  have hKc := C.2.2.2.2.2.2.2.2.1.2.2.2.2.2.2.2.2.2
  exact va_sld C.1 C.2.1 hKc.1 (Nat.lt_of_lt_of_le hKc.2 C.2.2.2.2.2.2.2.2.2.1) (fun z => absurd hKc.2 (Nat.not_lt.mpr z)) hA.2.2.2 (am_ix_in hi) hd h
theorem sd_alenX (C : am_Ctx b ad D cy X mid p s m args meth c) (hc : am_cd mid j = some (.arraylength, q)) (kk : am_G p l e R s m args below meth c Q b ad D cy mid cells slots (j + 1) ls (.int (Int32.ofNat X.1) :: st) M) : am_G p l e R s m args below meth c Q b ad D cy mid cells slots j ls (.ref 1000050 :: st) M := by
  intro H locs cls hl hA
  obtain ⟨hd, -⟩ := am_fact (am_lt C) hc
  have h := kk H locs cls hl hA
  rw [am_next (am_lt C) hc rfl] at h
  have hKc := C.2.2.2.2.2.2.2.2.1.2.2.2.2.2.2.2.2.2
  exact va_slen C.1 C.2.1 hKc.1 (Nat.lt_of_lt_of_le hKc.2 C.2.2.2.2.2.2.2.2.2.1) (fun z => absurd hKc.2 (Nat.not_lt.mpr z)) hA.2.2.2 hd h
theorem sd_ialdO (C : am_Ctx b ad D cy X mid p s m args meth c) (hc : am_cd mid j = some (.iaload, q)) (hi : am_ix x 8 = true) (kk : am_G p l e R s m args below meth c Q b ad D cy mid cells slots (j + 1) ls (.int (am_orders x.toNatClampNeg) :: st) M) : am_G p l e R s m args below meth c Q b ad D cy mid cells slots j ls (.int x :: .ref 1000040 :: st) M := by
  intro H locs cls hl hA
  obtain ⟨hd, -⟩ := am_fact (am_lt C) hc
  have h := kk H locs cls hl hA
  rw [am_next (am_lt C) hc rfl] at h
  have hKc := C.2.2.2.2.2.2.2.2.1.2.2.2.2.2.2.2.2.1
  exact va_ti C.1 C.2.1 hKc hA.2.2.2 (am_ix_in hi) rfl hd h
theorem sd_gets {ix p0 r1 r2 r3 : Nat} (C : am_Ctx b ad D cy X mid p s m args meth c) (hc : am_cd mid j = some (.getstatic ix, p0, r1, r2, r3)) (kk : am_G p l e R s m args below meth c Q b ad D cy mid cells slots (j + 1) ls (.ref 1000040 :: st) M) : am_G p l e R s m args below meth c Q b ad D cy mid cells slots j ls st M := by
  intro H locs cls hl hA
  obtain ⟨hd, hck⟩ := am_fact (am_lt C) hc
  have h := kk H locs cls hl hA
  rw [am_next (am_lt C) hc rfl] at h
  simp only [am_ck, Bool.and_eq_true] at hck
  have hlink := C.2.2.2.2.1 _ (am_lk_mem hck.2)
  exact va_gets C.1 C.2.1 C.2.2.2.2.2.2.2.2.1.2.2.2.2.2.2.2.1 hA.2.2.2 C.2.2.2.1 hlink (fun _ z => z) hd h
theorem sd_ldc2 {ix p0 r1 r2 r3 : Nat} (C : am_Ctx b ad D cy X mid p s m args meth c) (hc : am_cd mid j = some (.ldc2_w ix, p0, r1, r2, r3)) (kk : am_G p l e R s m args below meth c Q b ad D cy mid cells slots (j + 1) ls (.long (am_lcT.getD r1 0) :: st) M) : am_G p l e R s m args below meth c Q b ad D cy mid cells slots j ls st M := by
  intro H locs cls hl hA
  obtain ⟨hd, hck⟩ := am_fact (am_lt C) hc
  have h := kk H locs cls hl hA
  rw [am_next (am_lt C) hc rfl] at h
  simp only [am_ck, Bool.and_eq_true] at hck
  have hlink := C.2.2.2.2.1 _ (am_lk_mem hck.2)
  exact lv_ldc2 C.1 C.2.1 C.2.2.2.1 hlink hd h
theorem sd_ldc {ix p0 r1 r2 r3 : Nat} (C : am_Ctx b ad D cy X mid p s m args meth c) (hc : am_cd mid j = some (.ldc ix, p0, r1, r2, r3)) (kk : am_G p l e R s m args below meth c Q b ad D cy mid cells slots (j + 1) ls (.ref (1000000 + r1) :: st) M) : am_G p l e R s m args below meth c Q b ad D cy mid cells slots j ls st M := by
  intro H locs cls hl hA
  obtain ⟨hd, hck⟩ := am_fact (am_lt C) hc
  have h := kk H locs cls hl hA
  rw [am_next (am_lt C) hc rfl, List.map_cons] at h
  simp only [am_ck, Bool.and_eq_true, beq_iff_eq] at hck
  have hmem : (ix, r1) ∈ am_srT := by simpa using hck.2.2
  have hR := C.2.2.2.2.2.2.2.2.1.2.2.2.2.1 _ hmem
  have hown := C.2.2.2.1
  rw [hck.2.1] at hown
  refine va_ldcS C.1 C.2.1 (own := RX5) hown hR hd ?_
  have e9 : am_cv b ad (.ref (1000000 + r1)) = .ref (ad r1) := by
    show Value.ref (am_ad b ad (1000000 + r1)) = _
    unfold am_ad
    rw [if_neg (by omega), Nat.add_sub_cancel_left]
  rw [e9] at h
  exact h
end SN2
end
section
/-! ===== makings, and the small calls of the library ===== -/
theorem u0_ne {α : Type} {f : Nat → Nat → α} {a q : Nat} {v : α} (h : q ≠ a) : u0 f a v q = f q := funext (fun i => if_neg h)
theorem u0_at {α : Type} {f : Nat → Nat → α} {a : Nat} {v : α} : u0 f a v a = fun _ => v := funext (fun i => if_pos rfl)
theorem am_rd_app {mr : List (List (Option Nat))} {row : List (Option Nat)} {a i : Nat} (h : a < mr.length) : am_rd (mr ++ [row]) a i = am_rd mr a i := by
  unfold am_rd
  rw [List.getElem?_append_left h]
theorem am_rd_new {mr : List (List (Option Nat))} {row : List (Option Nat)} {i : Nat} : am_rd (mr ++ [row]) mr.length i = (row[i]?).getD none := by
  unfold am_rd
  rw [List.getElem?_append_right (Nat.le_refl _), Nat.sub_self]
  rfl
theorem am_none_row {n i : Nat} : ((List.replicate n (none : Option Nat))[i]?).getD none = none := by
  rw [List.getElem?_replicate]
  split <;> rfl
theorem am_none_map {ts : List Nat} {i : Nat} : ((ts.map (fun _ => (none : Option Nat)))[i]?).getD none = none := by
  rw [List.getElem?_map]
  cases ts[i]? <;> rfl
/-- the memory with one cell more, and what of it is as it was -/
theorem am_grow {M : am_M} {t9 : Nat × Nat} {row : List (Option Nat)} {cy : Nat → ClassId} {b : Nat} {ad : Nat → Nat} (hw : am_wf M) {q9 : Nat} (hq : q9 < M.1.length) : am_cell cy b ad (M.1 ++ [t9], M.2.1 ++ [row], u0 M.2.2.1 M.1.length 0, u0 M.2.2.2 M.1.length 0) q9 = am_cell cy b ad M q9 :=
  am_cell_congr (M := M) (List.getElem?_append_left hq) (u0_ne (Nat.ne_of_lt hq)) (u0_ne (Nat.ne_of_lt hq)) (fun i9 => am_rd_app (by rw [hw.1]; exact hq))
theorem am_grow_wf {M : am_M} {k9 n9 : Nat} {row : List (Option Nat)} {f9 : Nat → Nat → Int32} {g9 : Nat → Nat → Int64} (hw : am_wf M) (hN : M.1.length < 1000000) (h1 : k9 < 100 → k9 < 12 ∧ n9 = (am_ftT.getD k9 []).length) (h2 : 100 ≤ k9 → k9 ≤ 105) : am_wf (M.1 ++ [(k9, n9)], M.2.1 ++ [row], f9, g9) := by
  have key : ∀ (a k n : Nat), (M.1 ++ [(k9, n9)])[a]? = some (k, n) → M.1[a]? = some (k, n) ∨ (k = k9 ∧ n = n9) := by
    intro a k n h
    by_cases hl : a < M.1.length
    · rw [List.getElem?_append_left hl] at h
      exact Or.inl h
    · rw [List.getElem?_append_right (by omega)] at h
      have hz : a - M.1.length < 1 := (List.getElem?_eq_some_iff.mp h).1
      rw [show a - M.1.length = 0 by omega] at h
      cases h
      exact Or.inr ⟨rfl, rfl⟩
  refine ⟨?_, ?_, fun a k n h hk => ?_, fun a k n h hk => ?_⟩
  · show (M.2.1 ++ [row]).length = (M.1 ++ [(k9, n9)]).length
    rw [List.length_append, List.length_append, hw.1]
    rfl
  · show (M.1 ++ [(k9, n9)]).length ≤ 1000000
    rw [List.length_append]
    exact hN
  · rcases key a k n h with h3 | ⟨h3, h4⟩
    · exact hw.2.2.1 a k n h3 hk
    · rw [h3, h4]
      exact h1 (by omega)
  · rcases key a k n h with h3 | ⟨h3, h4⟩
    · exact hw.2.2.2 a k n h3 hk
    · rw [h3]
      exact h2 (by omega)
section SN3
variable {p : Program} {l : Launch} {e : Env} {R : Room} {s : State} {m : MethodId} {args : Array Value} {below : List Frame} {meth : Method} {c : Code} {Q : State → Prop}
variable {b : Nat} {ad : Nat → Nat} {D : va_G} {cy : Nat → ClassId} {X : Nat × (Nat → Int32)} {mid cells slots j : Nat} {ls st : List Value} {M : am_M} {q : Nat × Nat × Nat × Nat} {x y : Int32} {lx ly : Int64} {a ix p0 r1 r2 r3 : Nat}

theorem sd_new {ts : List Nat} (C : am_Ctx b ad D cy X mid p s m args meth c) (hc : am_cd mid j = some (.new ix, p0, r1, r2, r3)) (hts : am_ftT[r1]? = some ts) (hN : M.1.length < 1000000) (hcap : cells + 1 ≤ R.cells) (hcap2 : slots + ts.length ≤ R.slots) (kk : am_G p l e R s m args below meth c Q b ad D cy mid (cells + 1) (slots + ts.length) (j + 1) ls (.ref M.1.length :: st) (M.1 ++ [(r1, ts.length)], M.2.1 ++ [ts.map (fun _ => none)], u0 M.2.2.1 M.1.length 0, u0 M.2.2.2 M.1.length 0)) : am_G p l e R s m args below meth c Q b ad D cy mid cells slots j ls st M := by
  intro H locs cls hl hA
  refine am_size C.2.2.2.2.2.2.2.2.2.1 hA (fun hsz => ?_)
  obtain ⟨hd, hck⟩ := am_fact (am_lt C) hc
  simp only [am_ck, Bool.and_eq_true, decide_eq_true_eq] at hck
  obtain ⟨-, hlk, h12⟩ := hck
  obtain ⟨Cn, T, N, ty, hcl, hty, hnm⟩ := am_class h12
  obtain ⟨e1, e2, e3, e4, e5, e6⟩ := am_cl_facts h12 hcl
  have hg : am_ftT.getD r1 [] = ts := by rw [List.getD_eq_getElem?_getD, hts]; rfl
  have hNt : ts.length = N := by rw [← e4, hg]
  have hlink := C.2.2.2.2.1 _ (am_lk_mem hlk)
  simp only [am_lkw, ← e1] at hlink
  have hK := C.2.2.2.2.2.2.2.2.1.1
  have hKn := hK.1 r1 _ hcl
  have hh := kk
  rw [hNt] at hcap2
  refine W.newcK C.1 C.2.1 C.2.2.2.1 hlink (C.2.2.2.2.1 _ e2) (C.2.2.2.2.1 _ e3) rfl hd hcap hcap2 hKn.2.1 hsz fun H1 kC hkC g1 g2 g3 => ?_
  have hcn : ((M.1 ++ [(r1, ts.length)], M.2.1 ++ [ts.map (fun _ => none)], u0 M.2.2.1 M.1.length 0, u0 M.2.2.2 M.1.length 0) : am_M).1[M.1.length]? = some (r1, ts.length) := by
    show (M.1 ++ [(r1, ts.length)])[M.1.length]? = _
    rw [List.getElem?_append_right (Nat.le_refl _), Nat.sub_self]
    rfl
  have hws : am_ws cy b ad (M.1 ++ [(r1, ts.length)], M.2.1 ++ [ts.map (fun _ => none)], u0 M.2.2.1 M.1.length 0, u0 M.2.2.2 M.1.length 0) = am_ws cy b ad M ++ [(b + M.1.length, .inr (r1, (List.range ts.length).map (am_fv b ad (M.1 ++ [(r1, ts.length)], M.2.1 ++ [ts.map (fun _ => none)], u0 M.2.2.1 M.1.length 0, u0 M.2.2.2 M.1.length 0) r1 M.1.length)))] := by
    refine am_ws_push ?_ (fun q9 hq9 => am_grow hA.2.2.1 hq9) (am_cell_obj hcn (by omega))
    show (M.1 ++ [(r1, ts.length)]).length = _
    rw [List.length_append]
    rfl
  have hfv : ∀ k9, k9 < N → defaultValue (ty k9) = vp_V ((List.range ts.length).map (am_fv b ad (M.1 ++ [(r1, ts.length)], M.2.1 ++ [ts.map (fun _ => none)], u0 M.2.2.1 M.1.length 0, u0 M.2.2.2 M.1.length 0) r1 M.1.length)) k9 := by
    intro k9 hk9
    have h1 := am_ty_of h12 (show k9 < (am_ftT.getD r1 []).length by omega)
    rw [← (e6 k9 hk9).1, hty k9 hk9, am_getD_eq (v := 2) (show k9 < (am_ftT.getD r1 []).length by omega)] at h1
    unfold vp_V
    rw [List.getD_eq_getElem?_getD, List.getElem?_map, List.getElem?_range (by omega)]
    show _ = am_fv b ad (M.1 ++ [(r1, ts.length)], M.2.1 ++ [ts.map (fun _ => none)], u0 M.2.2.1 M.1.length 0, u0 M.2.2.2 M.1.length 0) r1 M.1.length k9
    have hr : am_rd (M.2.1 ++ [ts.map (fun _ => none)]) M.1.length k9 = none := by
      rw [← hA.2.2.1.1, am_rd_new]
      exact am_none_map
    unfold am_fv
    show _ = (match (am_ftT.getD r1 []).getD k9 2 with
      | 0 => Value.int (u0 M.2.2.1 M.1.length 0 M.1.length k9)
      | 1 => .long (u0 M.2.2.2 M.1.length 0 M.1.length k9)
      | _ => va_rf ((am_rd (M.2.1 ++ [ts.map (fun _ => none)]) M.1.length k9).map (am_ad b ad)))
    rw [hr, u0_at, u0_at]
    revert h1
    generalize (am_ftT.getD r1 []).getD k9 2 = t9
    generalize ty k9 = y9
    intro h1
    split at h1
    · rename_i hy
      cases hy
      rfl
    · rename_i hy
      cases hy
      rfl
    · rename_i hy
      cases hy
      rfl
    · rename_i hy
      cases hy
      rfl
    · exact h1.elim
  have hwf := am_grow_wf (k9 := r1) (n9 := ts.length) (row := ts.map (fun _ => none)) (f9 := u0 M.2.2.1 M.1.length 0) (g9 := u0 M.2.2.2 M.1.length 0) hA.2.2.1 hN (fun _ => ⟨h12, by rw [hg]⟩) (fun _ => by omega)
  have hold : ∀ (k9 : Nat) (x9 : Nat × va_E), (am_ws cy b ad M)[k9]? = some x9 → H1[x9.1]? = H[x9.1]? := fun k9 x9 hx => g3 x9.1 (by rw [← hsz]; exact (hA.1 k9 x9 hx).lt)
  have h := kk H1 locs cls hl ⟨by
      rw [hws]
      refine (hA.1.kept hold).app (fun k9 x9 hx => ?_)
      have hz : k9 < 1 := (List.getElem?_eq_some_iff.mp hx).1
      rw [show k9 = 0 by omega] at hx
      cases hx
      exact ⟨_, hcl, (u_born ty C.2.2.2.2.1 e5 hKn hkC g1 hty).to hfv⟩, by
      show b + (M.1 ++ [(r1, ts.length)]).length = _
      rw [List.length_append]
      have := hA.2.1
      show b + (M.1.length + 1) = _
      omega, hwf, ⟨Nat.le_trans hA.2.2.2.1 (by omega), fun x9 h1 h2 => (g3 x9 (by rw [← hsz]; exact Nat.lt_of_lt_of_le h1 hA.2.2.2.1)).trans (hA.2.2.2.2.1 x9 h1 h2), hA.2.2.2.2.2⟩⟩
  rw [am_next (am_lt C) hc rfl, List.map_cons, show am_cv b ad (.ref M.1.length) = .ref (b + M.1.length) from congrArg Value.ref (am_ad_lt hN), hNt] at h
  exact h
theorem sd_newa_int (C : am_Ctx b ad D cy X mid p s m args meth c) (hc : am_cd mid j = some (.newarray .int, q)) (hx0 : 0 ≤ x) (hx1 : x.toNatClampNeg ≤ 65536) (hN : M.1.length < 1000000) (hcap : cells + 1 ≤ R.cells) (hcap2 : slots + x.toNatClampNeg ≤ R.slots) (kk : am_G p l e R s m args below meth c Q b ad D cy mid (cells + 1) (slots + x.toNatClampNeg) (j + 1) ls (.ref M.1.length :: st) (M.1 ++ [(100, x.toNatClampNeg)], M.2.1 ++ [[]], u0 M.2.2.1 M.1.length 0, u0 M.2.2.2 M.1.length 0)) : am_G p l e R s m args below meth c Q b ad D cy mid cells slots j ls (.int x :: st) M := by
  intro H locs cls hl hA
  refine am_size C.2.2.2.2.2.2.2.2.2.1 hA (fun hsz => ?_)
  obtain ⟨hd, -⟩ := am_fact (am_lt C) hc
  have hK := C.2.2.2.2.2.2.2.2.1.1
  have harr : Cond.arrayClass .int ∈ am_big := am_in (of_decide_eq_true (List.all_eq_true.mp am_wh_ok _ (show _ ∈ am_wh from List.mem_of_getElem? (i := 13) rfl))) rfl
  refine va_newaK (atype := .int) C.1 C.2.1 (C.2.2.2.2.1 _ harr) (g := F0 m (am_pc mid j) cls (.int x :: st.map (am_cv b ad))) rfl hd rfl (Int32.not_lt.mpr hx0) rfl (by show _ * componentBytes .int ≤ _; simp only [componentBytes]; omega) hcap hcap2 hsz fun H1 cA g1 g2 g3 g4 g5 => ?_
  have hcA : cA = cy 100 := by
    have h1 : s.vm.findClass ("[" ++ (FieldType.int).toString) = some (cy 100) := (hK.2 0 _ rfl).2
    exact Option.some.inj (g5.symm.trans h1)
  subst hcA
  have hcn : ((M.1 ++ [(100, x.toNatClampNeg)], M.2.1 ++ [[]], u0 M.2.2.1 M.1.length 0, u0 M.2.2.2 M.1.length 0) : am_M).1[M.1.length]? = some (100, x.toNatClampNeg) := by
    show (M.1 ++ [(100, x.toNatClampNeg)])[M.1.length]? = _
    rw [List.getElem?_append_right (Nat.le_refl _), Nat.sub_self]
    rfl
  have hws : am_ws cy b ad (M.1 ++ [(100, x.toNatClampNeg)], M.2.1 ++ [[]], u0 M.2.2.1 M.1.length 0, u0 M.2.2.2 M.1.length 0) = am_ws cy b ad M ++ [(b + M.1.length, .inl (cy 100, x.toNatClampNeg, .inl (u0 M.2.2.1 M.1.length 0 M.1.length)))] := by
    refine am_ws_push ?_ (fun q9 hq9 => am_grow hA.2.2.1 hq9) (am_cell_int (M := (M.1 ++ [(100, x.toNatClampNeg)], M.2.1 ++ [[]], u0 M.2.2.1 M.1.length 0, u0 M.2.2.2 M.1.length 0)) hcn (Or.inl rfl))
    show (M.1 ++ [(100, x.toNatClampNeg)]).length = _
    rw [List.length_append]
    rfl
  have hold : ∀ (k9 : Nat) (x9 : Nat × va_E), (am_ws cy b ad M)[k9]? = some x9 → H1[x9.1]? = H[x9.1]? := fun k9 x9 hx => g3 x9.1 (by rw [← hsz]; exact (hA.1 k9 x9 hx).lt)
  have h := kk H1 locs cls hl ⟨by
      rw [hws]
      refine (hA.1.kept hold).app (fun k9 x9 hx => ?_)
      have hz : k9 < 1 := (List.getElem?_eq_some_iff.mp hx).1
      rw [show k9 = 0 by omega] at hx
      cases hx
      show H1[b + M.1.length]? = some (vp_cell _ _)
      rw [g1, u0_at]
      rfl, by
      show b + (M.1 ++ [(100, x.toNatClampNeg)]).length = _
      rw [List.length_append]
      have := hA.2.1
      show b + (M.1.length + 1) = _
      omega, am_grow_wf hA.2.2.1 hN (fun z => by omega) (fun _ => by omega), ⟨Nat.le_trans hA.2.2.2.1 (by omega), fun x9 h1 h2 => (g3 x9 (by rw [← hsz]; exact Nat.lt_of_lt_of_le h1 hA.2.2.2.1)).trans (hA.2.2.2.2.1 x9 h1 h2), hA.2.2.2.2.2⟩⟩
  rw [am_next (am_lt C) hc rfl, List.map_cons, show am_cv b ad (.ref M.1.length) = .ref (b + M.1.length) from congrArg Value.ref (am_ad_lt hN)] at h
  exact h
theorem sd_newa_byte (C : am_Ctx b ad D cy X mid p s m args meth c) (hc : am_cd mid j = some (.newarray .byte, q)) (hx0 : 0 ≤ x) (hx1 : x.toNatClampNeg ≤ 65536) (hN : M.1.length < 1000000) (hcap : cells + 1 ≤ R.cells) (hcap2 : slots + x.toNatClampNeg ≤ R.slots) (kk : am_G p l e R s m args below meth c Q b ad D cy mid (cells + 1) (slots + x.toNatClampNeg) (j + 1) ls (.ref M.1.length :: st) (M.1 ++ [(101, x.toNatClampNeg)], M.2.1 ++ [[]], u0 M.2.2.1 M.1.length 0, u0 M.2.2.2 M.1.length 0)) : am_G p l e R s m args below meth c Q b ad D cy mid cells slots j ls (.int x :: st) M := by
  intro H locs cls hl hA
  refine am_size C.2.2.2.2.2.2.2.2.2.1 hA (fun hsz => ?_)
  obtain ⟨hd, -⟩ := am_fact (am_lt C) hc
  have hK := C.2.2.2.2.2.2.2.2.1.1
  have harr : Cond.arrayClass .byte ∈ am_big := am_in (of_decide_eq_true (List.all_eq_true.mp am_wh_ok _ (show _ ∈ am_wh from List.mem_of_getElem? (i := 14) rfl))) rfl
  refine va_newaK (atype := .byte) C.1 C.2.1 (C.2.2.2.2.1 _ harr) (g := F0 m (am_pc mid j) cls (.int x :: st.map (am_cv b ad))) rfl hd rfl (Int32.not_lt.mpr hx0) rfl (by show _ * componentBytes .byte ≤ _; simp only [componentBytes]; omega) hcap hcap2 hsz fun H1 cA g1 g2 g3 g4 g5 => ?_
  have hcA : cA = cy 101 := by
    have h1 : s.vm.findClass ("[" ++ (FieldType.byte).toString) = some (cy 101) := (hK.2 1 _ rfl).2
    exact Option.some.inj (g5.symm.trans h1)
  subst hcA
  have hcn : ((M.1 ++ [(101, x.toNatClampNeg)], M.2.1 ++ [[]], u0 M.2.2.1 M.1.length 0, u0 M.2.2.2 M.1.length 0) : am_M).1[M.1.length]? = some (101, x.toNatClampNeg) := by
    show (M.1 ++ [(101, x.toNatClampNeg)])[M.1.length]? = _
    rw [List.getElem?_append_right (Nat.le_refl _), Nat.sub_self]
    rfl
  have hws : am_ws cy b ad (M.1 ++ [(101, x.toNatClampNeg)], M.2.1 ++ [[]], u0 M.2.2.1 M.1.length 0, u0 M.2.2.2 M.1.length 0) = am_ws cy b ad M ++ [(b + M.1.length, .inl (cy 101, x.toNatClampNeg, .inl (u0 M.2.2.1 M.1.length 0 M.1.length)))] := by
    refine am_ws_push ?_ (fun q9 hq9 => am_grow hA.2.2.1 hq9) (am_cell_int (M := (M.1 ++ [(101, x.toNatClampNeg)], M.2.1 ++ [[]], u0 M.2.2.1 M.1.length 0, u0 M.2.2.2 M.1.length 0)) hcn (Or.inr (Or.inl rfl)))
    show (M.1 ++ [(101, x.toNatClampNeg)]).length = _
    rw [List.length_append]
    rfl
  have hold : ∀ (k9 : Nat) (x9 : Nat × va_E), (am_ws cy b ad M)[k9]? = some x9 → H1[x9.1]? = H[x9.1]? := fun k9 x9 hx => g3 x9.1 (by rw [← hsz]; exact (hA.1 k9 x9 hx).lt)
  have h := kk H1 locs cls hl ⟨by
      rw [hws]
      refine (hA.1.kept hold).app (fun k9 x9 hx => ?_)
      have hz : k9 < 1 := (List.getElem?_eq_some_iff.mp hx).1
      rw [show k9 = 0 by omega] at hx
      cases hx
      show H1[b + M.1.length]? = some (vp_cell _ _)
      rw [g1, u0_at]
      rfl, by
      show b + (M.1 ++ [(101, x.toNatClampNeg)]).length = _
      rw [List.length_append]
      have := hA.2.1
      show b + (M.1.length + 1) = _
      omega, am_grow_wf hA.2.2.1 hN (fun z => by omega) (fun _ => by omega), ⟨Nat.le_trans hA.2.2.2.1 (by omega), fun x9 h1 h2 => (g3 x9 (by rw [← hsz]; exact Nat.lt_of_lt_of_le h1 hA.2.2.2.1)).trans (hA.2.2.2.2.1 x9 h1 h2), hA.2.2.2.2.2⟩⟩
  rw [am_next (am_lt C) hc rfl, List.map_cons, show am_cv b ad (.ref M.1.length) = .ref (b + M.1.length) from congrArg Value.ref (am_ad_lt hN)] at h
  exact h
theorem sd_newa_boolean (C : am_Ctx b ad D cy X mid p s m args meth c) (hc : am_cd mid j = some (.newarray .boolean, q)) (hx0 : 0 ≤ x) (hx1 : x.toNatClampNeg ≤ 65536) (hN : M.1.length < 1000000) (hcap : cells + 1 ≤ R.cells) (hcap2 : slots + x.toNatClampNeg ≤ R.slots) (kk : am_G p l e R s m args below meth c Q b ad D cy mid (cells + 1) (slots + x.toNatClampNeg) (j + 1) ls (.ref M.1.length :: st) (M.1 ++ [(102, x.toNatClampNeg)], M.2.1 ++ [[]], u0 M.2.2.1 M.1.length 0, u0 M.2.2.2 M.1.length 0)) : am_G p l e R s m args below meth c Q b ad D cy mid cells slots j ls (.int x :: st) M := by
  intro H locs cls hl hA
  refine am_size C.2.2.2.2.2.2.2.2.2.1 hA (fun hsz => ?_)
  obtain ⟨hd, -⟩ := am_fact (am_lt C) hc
  have hK := C.2.2.2.2.2.2.2.2.1.1
  have harr : Cond.arrayClass .boolean ∈ am_big := am_in (of_decide_eq_true (List.all_eq_true.mp am_wh_ok _ (show _ ∈ am_wh from List.mem_of_getElem? (i := 15) rfl))) rfl
  refine va_newaK (atype := .boolean) C.1 C.2.1 (C.2.2.2.2.1 _ harr) (g := F0 m (am_pc mid j) cls (.int x :: st.map (am_cv b ad))) rfl hd rfl (Int32.not_lt.mpr hx0) rfl (by show _ * componentBytes .boolean ≤ _; simp only [componentBytes]; omega) hcap hcap2 hsz fun H1 cA g1 g2 g3 g4 g5 => ?_
  have hcA : cA = cy 102 := by
    have h1 : s.vm.findClass ("[" ++ (FieldType.boolean).toString) = some (cy 102) := (hK.2 2 _ rfl).2
    exact Option.some.inj (g5.symm.trans h1)
  subst hcA
  have hcn : ((M.1 ++ [(102, x.toNatClampNeg)], M.2.1 ++ [[]], u0 M.2.2.1 M.1.length 0, u0 M.2.2.2 M.1.length 0) : am_M).1[M.1.length]? = some (102, x.toNatClampNeg) := by
    show (M.1 ++ [(102, x.toNatClampNeg)])[M.1.length]? = _
    rw [List.getElem?_append_right (Nat.le_refl _), Nat.sub_self]
    rfl
  have hws : am_ws cy b ad (M.1 ++ [(102, x.toNatClampNeg)], M.2.1 ++ [[]], u0 M.2.2.1 M.1.length 0, u0 M.2.2.2 M.1.length 0) = am_ws cy b ad M ++ [(b + M.1.length, .inl (cy 102, x.toNatClampNeg, .inl (u0 M.2.2.1 M.1.length 0 M.1.length)))] := by
    refine am_ws_push ?_ (fun q9 hq9 => am_grow hA.2.2.1 hq9) (am_cell_int (M := (M.1 ++ [(102, x.toNatClampNeg)], M.2.1 ++ [[]], u0 M.2.2.1 M.1.length 0, u0 M.2.2.2 M.1.length 0)) hcn (Or.inr (Or.inr rfl)))
    show (M.1 ++ [(102, x.toNatClampNeg)]).length = _
    rw [List.length_append]
    rfl
  have hold : ∀ (k9 : Nat) (x9 : Nat × va_E), (am_ws cy b ad M)[k9]? = some x9 → H1[x9.1]? = H[x9.1]? := fun k9 x9 hx => g3 x9.1 (by rw [← hsz]; exact (hA.1 k9 x9 hx).lt)
  have h := kk H1 locs cls hl ⟨by
      rw [hws]
      refine (hA.1.kept hold).app (fun k9 x9 hx => ?_)
      have hz : k9 < 1 := (List.getElem?_eq_some_iff.mp hx).1
      rw [show k9 = 0 by omega] at hx
      cases hx
      show H1[b + M.1.length]? = some (vp_cell _ _)
      rw [g1, u0_at]
      rfl, by
      show b + (M.1 ++ [(102, x.toNatClampNeg)]).length = _
      rw [List.length_append]
      have := hA.2.1
      show b + (M.1.length + 1) = _
      omega, am_grow_wf hA.2.2.1 hN (fun z => by omega) (fun _ => by omega), ⟨Nat.le_trans hA.2.2.2.1 (by omega), fun x9 h1 h2 => (g3 x9 (by rw [← hsz]; exact Nat.lt_of_lt_of_le h1 hA.2.2.2.1)).trans (hA.2.2.2.2.1 x9 h1 h2), hA.2.2.2.2.2⟩⟩
  rw [am_next (am_lt C) hc rfl, List.map_cons, show am_cv b ad (.ref M.1.length) = .ref (b + M.1.length) from congrArg Value.ref (am_ad_lt hN)] at h
  exact h
theorem sd_newa_long (C : am_Ctx b ad D cy X mid p s m args meth c) (hc : am_cd mid j = some (.newarray .long, q)) (hx0 : 0 ≤ x) (hx1 : x.toNatClampNeg ≤ 65536) (hN : M.1.length < 1000000) (hcap : cells + 1 ≤ R.cells) (hcap2 : slots + x.toNatClampNeg ≤ R.slots) (kk : am_G p l e R s m args below meth c Q b ad D cy mid (cells + 1) (slots + x.toNatClampNeg) (j + 1) ls (.ref M.1.length :: st) (M.1 ++ [(103, x.toNatClampNeg)], M.2.1 ++ [[]], u0 M.2.2.1 M.1.length 0, u0 M.2.2.2 M.1.length 0)) : am_G p l e R s m args below meth c Q b ad D cy mid cells slots j ls (.int x :: st) M := by
  intro H locs cls hl hA
  refine am_size C.2.2.2.2.2.2.2.2.2.1 hA (fun hsz => ?_)
  obtain ⟨hd, -⟩ := am_fact (am_lt C) hc
  have hK := C.2.2.2.2.2.2.2.2.1.1
  have harr : Cond.arrayClass .long ∈ am_big := am_in (of_decide_eq_true (List.all_eq_true.mp am_wh_ok _ (show _ ∈ am_wh from List.mem_of_getElem? (i := 16) rfl))) rfl
  refine va_newaK (atype := .long) C.1 C.2.1 (C.2.2.2.2.1 _ harr) (g := F0 m (am_pc mid j) cls (.int x :: st.map (am_cv b ad))) rfl hd rfl (Int32.not_lt.mpr hx0) rfl (by show _ * componentBytes .long ≤ _; simp only [componentBytes]; omega) hcap hcap2 hsz fun H1 cA g1 g2 g3 g4 g5 => ?_
  have hcA : cA = cy 103 := by
    have h1 : s.vm.findClass ("[" ++ (FieldType.long).toString) = some (cy 103) := (hK.2 3 _ rfl).2
    exact Option.some.inj (g5.symm.trans h1)
  subst hcA
  have hcn : ((M.1 ++ [(103, x.toNatClampNeg)], M.2.1 ++ [[]], u0 M.2.2.1 M.1.length 0, u0 M.2.2.2 M.1.length 0) : am_M).1[M.1.length]? = some (103, x.toNatClampNeg) := by
    show (M.1 ++ [(103, x.toNatClampNeg)])[M.1.length]? = _
    rw [List.getElem?_append_right (Nat.le_refl _), Nat.sub_self]
    rfl
  have hws : am_ws cy b ad (M.1 ++ [(103, x.toNatClampNeg)], M.2.1 ++ [[]], u0 M.2.2.1 M.1.length 0, u0 M.2.2.2 M.1.length 0) = am_ws cy b ad M ++ [(b + M.1.length, .inl (cy 103, x.toNatClampNeg, .inr (.inl (u0 M.2.2.2 M.1.length 0 M.1.length))))] := by
    refine am_ws_push ?_ (fun q9 hq9 => am_grow hA.2.2.1 hq9) (am_cell_long (M := (M.1 ++ [(103, x.toNatClampNeg)], M.2.1 ++ [[]], u0 M.2.2.1 M.1.length 0, u0 M.2.2.2 M.1.length 0)) hcn)
    show (M.1 ++ [(103, x.toNatClampNeg)]).length = _
    rw [List.length_append]
    rfl
  have hold : ∀ (k9 : Nat) (x9 : Nat × va_E), (am_ws cy b ad M)[k9]? = some x9 → H1[x9.1]? = H[x9.1]? := fun k9 x9 hx => g3 x9.1 (by rw [← hsz]; exact (hA.1 k9 x9 hx).lt)
  have h := kk H1 locs cls hl ⟨by
      rw [hws]
      refine (hA.1.kept hold).app (fun k9 x9 hx => ?_)
      have hz : k9 < 1 := (List.getElem?_eq_some_iff.mp hx).1
      rw [show k9 = 0 by omega] at hx
      cases hx
      show H1[b + M.1.length]? = some (vp_cell _ _)
      rw [g1, u0_at]
      rfl, by
      show b + (M.1 ++ [(103, x.toNatClampNeg)]).length = _
      rw [List.length_append]
      have := hA.2.1
      show b + (M.1.length + 1) = _
      omega, am_grow_wf hA.2.2.1 hN (fun z => by omega) (fun _ => by omega), ⟨Nat.le_trans hA.2.2.2.1 (by omega), fun x9 h1 h2 => (g3 x9 (by rw [← hsz]; exact Nat.lt_of_lt_of_le h1 hA.2.2.2.1)).trans (hA.2.2.2.2.1 x9 h1 h2), hA.2.2.2.2.2⟩⟩
  rw [am_next (am_lt C) hc rfl, List.map_cons, show am_cv b ad (.ref M.1.length) = .ref (b + M.1.length) from congrArg Value.ref (am_ad_lt hN)] at h
  exact h
theorem sd_anew (C : am_Ctx b ad D cy X mid p s m args meth c) (hc : am_cd mid j = some (.anewarray ix, p0, r1, r2, r3)) (hx0 : 0 ≤ x) (hx1 : x.toNatClampNeg ≤ 65536) (hN : M.1.length < 1000000) (hcap : cells + 1 ≤ R.cells) (hcap2 : slots + x.toNatClampNeg ≤ R.slots) (kk : am_G p l e R s m args below meth c Q b ad D cy mid (cells + 1) (slots + x.toNatClampNeg) (j + 1) ls (.ref M.1.length :: st) (M.1 ++ [(104, x.toNatClampNeg)], M.2.1 ++ [List.replicate x.toNatClampNeg none], u0 M.2.2.1 M.1.length 0, u0 M.2.2.2 M.1.length 0)) : am_G p l e R s m args below meth c Q b ad D cy mid cells slots j ls (.int x :: st) M := by
  intro H locs cls hl hA
  refine am_size C.2.2.2.2.2.2.2.2.2.1 hA (fun hsz => ?_)
  obtain ⟨hd, hck⟩ := am_fact (am_lt C) hc
  simp only [am_ck, Bool.and_eq_true] at hck
  have hlink := C.2.2.2.2.1 _ (am_lk_mem hck.2)
  have hK := C.2.2.2.2.2.2.2.2.1.1
  refine W.anew C.1 C.2.1 C.2.2.2.1 (C := RX8) hlink (va_AO.use C.2.2.2.2.2.2.2.2.1.2.2.1) (g := F0 m (am_pc mid j) cls (.int x :: st.map (am_cv b ad))) rfl hd rfl (Int32.not_lt.mpr hx0) (by omega) hcap hcap2 fun cA kA comp g4 g5 g6 g7 => ?_
  have hcA : cA = cy 104 := by
    obtain ⟨kA2, comp2, h1, h2, h3, h4⟩ := (hK.2 4 _ rfl).2
    exact Option.some.inj (g4.symm.trans h4)
  subst hcA
  generalize hH1 : H.push ({ cls := cy 104, slots := Array.replicate x.toNatClampNeg .null, vm := .none } : Cell) = H1
  have z1 : H1.size = H.size + 1 := by rw [← hH1, Array.size_push]
  have g1 : H1[H.size]? = some (arrV (cy 104) x.toNatClampNeg (fun _ => .null)) := by rw [← hH1, Array.getElem?_push_size, ← arrV_new]
  have g3 : ∀ x9, x9 < b + M.1.length → H1[x9]? = H[x9]? := fun x9 hx => by rw [← hH1, Array.getElem?_push, if_neg (by omega)]
  have hcn : ((M.1 ++ [(104, x.toNatClampNeg)], M.2.1 ++ [List.replicate x.toNatClampNeg none], u0 M.2.2.1 M.1.length 0, u0 M.2.2.2 M.1.length 0) : am_M).1[M.1.length]? = some (104, x.toNatClampNeg) := by
    show (M.1 ++ [(104, x.toNatClampNeg)])[M.1.length]? = _
    rw [List.getElem?_append_right (Nat.le_refl _), Nat.sub_self]
    rfl
  have hws : am_ws cy b ad (M.1 ++ [(104, x.toNatClampNeg)], M.2.1 ++ [List.replicate x.toNatClampNeg none], u0 M.2.2.1 M.1.length 0, u0 M.2.2.2 M.1.length 0) = am_ws cy b ad M ++ [(b + M.1.length, .inl (cy 104, x.toNatClampNeg, .inr (.inr (.inr (.inr (fun _ => none))))))] := by
    refine am_ws_push ?_ (fun q9 hq9 => am_grow hA.2.2.1 hq9) ?_
    · show (M.1 ++ [(104, x.toNatClampNeg)]).length = _
      rw [List.length_append]
      rfl
    · rw [am_cell_ref (M := (M.1 ++ [(104, x.toNatClampNeg)], M.2.1 ++ [List.replicate x.toNatClampNeg none], u0 M.2.2.1 M.1.length 0, u0 M.2.2.2 M.1.length 0)) hcn (Or.inl rfl)]
      congr 7
      funext i9
      show (am_rd (M.2.1 ++ [List.replicate x.toNatClampNeg none]) M.1.length i9).map (am_ad b ad) = none
      rw [← hA.2.2.1.1, am_rd_new, am_none_row]
      rfl
  have hold : ∀ (k9 : Nat) (x9 : Nat × va_E), (am_ws cy b ad M)[k9]? = some x9 → H1[x9.1]? = H[x9.1]? := fun k9 x9 hx => g3 x9.1 (by rw [← hsz]; exact (hA.1 k9 x9 hx).lt)
  have h := kk H1 locs cls hl ⟨by
      rw [hws]
      refine (hA.1.kept hold).app (fun k9 x9 hx => ?_)
      have hz : k9 < 1 := (List.getElem?_eq_some_iff.mp hx).1
      rw [show k9 = 0 by omega] at hx
      cases hx
      show H1[b + M.1.length]? = some (vp_cell _ _)
      rw [← hsz, g1]
      rfl, by
      show b + (M.1 ++ [(104, x.toNatClampNeg)]).length = _
      rw [List.length_append]
      have := hA.2.1
      show b + (M.1.length + 1) = _
      omega, am_grow_wf hA.2.2.1 hN (fun z => by omega) (fun _ => by omega), ⟨Nat.le_trans hA.2.2.2.1 (by omega), fun x9 h1 h2 => (g3 x9 (by rw [← hsz]; exact Nat.lt_of_lt_of_le h1 hA.2.2.2.1)).trans (hA.2.2.2.2.1 x9 h1 h2), hA.2.2.2.2.2⟩⟩
  rw [am_next (am_lt C) hc rfl, List.map_cons, show am_cv b ad (.ref M.1.length) = .ref (b + M.1.length) from congrArg Value.ref (am_ad_lt hN), ← hsz] at h
  exact h
theorem am_wh_in {i9 : Nat} {t9 : Nat × Cond} (h : am_wh[i9]? = some t9) (hg : goodWord t9.2 = true) : t9.2 ∈ am_big := am_in (of_decide_eq_true (List.all_eq_true.mp am_wh_ok _ (List.mem_of_getElem? h))) hg
theorem am_low_of {b : Nat} {ad : Nat → Nat} {st : List Value} (h : am_low st = true) : ((st.map (am_cv b ad)).map fun v => v.category).sum ≤ 8 := by
  rw [am_cv_sum]
  exact of_decide_eq_true h
theorem am_call_lk {mid ix y n b9 : Nat} (h : am_callok mid ix y n b9 = true) (hy : 1000 ≤ y) : Cond.methodLink (am_nm (am_k mid)) ix (am_pn y) ∈ am_big := by
  unfold am_callok at h
  rw [if_pos hy] at h
  exact am_lk_mem h
theorem sd_max (C : am_Ctx b ad D cy X mid p s m args meth c) (hc : am_cd mid j = some (.invokestatic ix, p0, 1001, r2, r3)) (hw : am_low st = true) (hR : 8 ≤ R.frames ∧ 300 ≤ R.locals) (hcap : cells ≤ R.cells ∧ slots ≤ R.slots) (kk : am_G p l e R s m args below meth c Q b ad D cy mid cells slots (j + 1) ls (.int (if x < y then y else x) :: st) M) : am_G p l e R s m args below meth c Q b ad D cy mid cells slots j ls (.int y :: .int x :: st) M := by
  intro H locs cls hl hA
  obtain ⟨hd, hck⟩ := am_fact (am_lt C) hc
  have h := kk H locs cls hl hA
  rw [am_next (am_lt C) hc rfl] at h
  simp only [am_ck, Bool.and_eq_true] at hck
  have hlink := C.2.2.2.2.1 _ (am_call_lk hck.2.1 (by omega))
  have hlow := am_low_of (b := b) (ad := ad) hw
  exact va_mmax C.1 C.2.1 (by rw [C.2.2.1, hl.1]) C.2.2.2.1 hlink (C.2.2.2.2.1 _ (am_wh_in (i9 := 1) rfl rfl)) (C.2.2.2.2.1 _ (am_wh_in (i9 := 0) rfl rfl)) (C.2.2.2.2.1 _ (am_wh_in (i9 := 6) rfl rfl)) (by omega) (by omega) hcap.1 hcap.2 hd h
theorem sd_min (C : am_Ctx b ad D cy X mid p s m args meth c) (hc : am_cd mid j = some (.invokestatic ix, p0, 1002, r2, r3)) (hw : am_low st = true) (hR : 8 ≤ R.frames ∧ 300 ≤ R.locals) (hcap : cells ≤ R.cells ∧ slots ≤ R.slots) (kk : am_G p l e R s m args below meth c Q b ad D cy mid cells slots (j + 1) ls (.int (if y < x then y else x) :: st) M) : am_G p l e R s m args below meth c Q b ad D cy mid cells slots j ls (.int y :: .int x :: st) M := by
  intro H locs cls hl hA
  obtain ⟨hd, hck⟩ := am_fact (am_lt C) hc
  have h := kk H locs cls hl hA
  rw [am_next (am_lt C) hc rfl] at h
  simp only [am_ck, Bool.and_eq_true] at hck
  have hlink := C.2.2.2.2.1 _ (am_call_lk hck.2.1 (by omega))
  have hlow := am_low_of (b := b) (ad := ad) hw
  exact va_mmin C.1 C.2.1 (by rw [C.2.2.1, hl.1]) C.2.2.2.1 hlink (C.2.2.2.2.1 _ (am_wh_in (i9 := 2) rfl rfl)) (C.2.2.2.2.1 _ (am_wh_in (i9 := 0) rfl rfl)) (C.2.2.2.2.1 _ (am_wh_in (i9 := 7) rfl rfl)) (by omega) (by omega) hcap.1 hcap.2 hd h
theorem sd_abs (C : am_Ctx b ad D cy X mid p s m args meth c) (hc : am_cd mid j = some (.invokestatic ix, p0, 1003, r2, r3)) (hw : am_low st = true) (hR : 8 ≤ R.frames ∧ 300 ≤ R.locals) (hcap : cells ≤ R.cells ∧ slots ≤ R.slots) (kk : am_G p l e R s m args below meth c Q b ad D cy mid cells slots (j + 1) ls (.int (if 0 ≤ x then x else 0 - x) :: st) M) : am_G p l e R s m args below meth c Q b ad D cy mid cells slots j ls (.int x :: st) M := by
  intro H locs cls hl hA
  obtain ⟨hd, hck⟩ := am_fact (am_lt C) hc
  have h := kk H locs cls hl hA
  rw [am_next (am_lt C) hc rfl] at h
  simp only [am_ck, Bool.and_eq_true] at hck
  have hlink := C.2.2.2.2.1 _ (am_call_lk hck.2.1 (by omega))
  have hlow := am_low_of (b := b) (ad := ad) hw
  exact va_mabs C.1 C.2.1 (by rw [C.2.2.1, hl.1]) C.2.2.2.1 hlink (C.2.2.2.2.1 _ (am_wh_in (i9 := 3) rfl rfl)) (C.2.2.2.2.1 _ (am_wh_in (i9 := 0) rfl rfl)) (C.2.2.2.2.1 _ (am_wh_in (i9 := 8) rfl rfl)) (by omega) (by omega) hcap.1 hcap.2 hd h
theorem sd_labs (C : am_Ctx b ad D cy X mid p s m args meth c) (hc : am_cd mid j = some (.invokestatic ix, p0, 1004, r2, r3)) (hw : am_low st = true) (hR : 8 ≤ R.frames ∧ 300 ≤ R.locals) (hcap : cells ≤ R.cells ∧ slots ≤ R.slots) (kk : am_G p l e R s m args below meth c Q b ad D cy mid cells slots (j + 1) ls (.long (if 0 < lx then lx else -lx) :: st) M) : am_G p l e R s m args below meth c Q b ad D cy mid cells slots j ls (.long lx :: st) M := by
  intro H locs cls hl hA
  obtain ⟨hd, hck⟩ := am_fact (am_lt C) hc
  have h := kk H locs cls hl hA
  rw [am_next (am_lt C) hc rfl] at h
  simp only [am_ck, Bool.and_eq_true] at hck
  have hlink := C.2.2.2.2.1 _ (am_call_lk hck.2.1 (by omega))
  have hlow := am_low_of (b := b) (ad := ad) hw
  exact va_mabs_long C.1 C.2.1 (by rw [C.2.2.1, hl.1]) C.2.2.2.1 hlink (C.2.2.2.2.1 _ (am_wh_in (i9 := 4) rfl rfl)) (C.2.2.2.2.1 _ (am_wh_in (i9 := 0) rfl rfl)) (C.2.2.2.2.1 _ (am_wh_in (i9 := 9) rfl rfl)) (by omega) (by omega) hcap.1 hcap.2 hd h
theorem sd_lmax (C : am_Ctx b ad D cy X mid p s m args meth c) (hc : am_cd mid j = some (.invokestatic ix, p0, 1005, r2, r3)) (hw : am_low st = true) (hR : 8 ≤ R.frames ∧ 300 ≤ R.locals) (hcap : cells ≤ R.cells ∧ slots ≤ R.slots) (kk : am_G p l e R s m args below meth c Q b ad D cy mid cells slots (j + 1) ls (.long (if ly < lx then lx else ly) :: st) M) : am_G p l e R s m args below meth c Q b ad D cy mid cells slots j ls (.long ly :: .long lx :: st) M := by
  intro H locs cls hl hA
  obtain ⟨hd, hck⟩ := am_fact (am_lt C) hc
  have h := kk H locs cls hl hA
  rw [am_next (am_lt C) hc rfl] at h
  simp only [am_ck, Bool.and_eq_true] at hck
  have hlink := C.2.2.2.2.1 _ (am_call_lk hck.2.1 (by omega))
  have hlow := am_low_of (b := b) (ad := ad) hw
  exact va_mmax_long C.1 C.2.1 (by rw [C.2.2.1, hl.1]) C.2.2.2.1 hlink (C.2.2.2.2.1 _ (am_wh_in (i9 := 5) rfl rfl)) (C.2.2.2.2.1 _ (am_wh_in (i9 := 0) rfl rfl)) (C.2.2.2.2.1 _ (am_wh_in (i9 := 10) rfl rfl)) (by omega) (by omega) hcap.1 hcap.2 hd h
theorem sd_obj (C : am_Ctx b ad D cy X mid p s m args meth c) (hc : am_cd mid j = some (.invokespecial ix, p0, 1000, r2, r3)) (hw : am_low st = true) (hR : 8 ≤ R.frames ∧ 300 ≤ R.locals) (kk : am_G p l e R s m args below meth c Q b ad D cy mid cells slots (j + 1) ls st M) : am_G p l e R s m args below meth c Q b ad D cy mid cells slots j ls (.ref a :: st) M := by
  intro H locs cls hl hA
  obtain ⟨hd, hck⟩ := am_fact (am_lt C) hc
  have h := kk H locs cls hl hA
  rw [am_next (am_lt C) hc rfl] at h
  simp only [am_ck, Bool.and_eq_true] at hck
  have hlink := C.2.2.2.2.1 _ (am_call_lk hck.2.1 (by omega))
  have hlow := am_low_of (b := b) (ad := ad) hw
  refine W.objInit C.1 C.2.1 C.2.2.2.1 hlink (C.2.2.2.2.1 _ (am_wh_in (i9 := 11) rfl rfl)) (C.2.2.2.2.1 _ (am_wh_in (i9 := 12) rfl rfl)) rfl (by rw [C.2.2.1]; exact hl.1) rfl hd (by omega) ?_ h
  have := lv_room (m := m) (pc := am_pc mid j) (ls := cls) (rest := (.ref (am_ad b ad a) :: st.map (am_cv b ad))) hlow
  show 2 * (F0 m (am_pc mid j) cls (.ref (am_ad b ad a) :: st.map (am_cv b ad))).monitorRoom + _ + 12 ≤ _
  omega
end SN3
end
section
/-! ===== what is known moves along; a call goes on ===== -/
theorem am_Kn_warm {b : Nat} {ad : Nat → Nat} {D : va_G} {cy : Nat → ClassId} {X : Nat × (Nat → Int32)} {s U : State} (h : am_Kn b ad D cy X s s.heap) (hW : s.WarmedH U.vm) (hb : b ≤ s.heap.size) (hq : ∀ q, q < b → U.heap[q]? = s.heap[q]?) : am_Kn b ad D cy X U U.heap := by
  have hk : ∀ a : Nat, a < s.heap.size → ¬ am_A b a → U.heap[a]? = s.heap[a]? := fun a _ h2 => hq a (Nat.not_le.mp h2)
  obtain ⟨h1, h2, h3, ⟨kA, h4, h5⟩, h6, ⟨adV, h7⟩, ⟨h8, h88⟩, h9, h10, h11, h12⟩ := h
  have hal := hW.alike
  refine ⟨va_K.moved hal h1, fun q hqq => va_Nw.warmM hW (h2 q hqq), va_AO.moved hal h3, ?_, fun q hqq => vk_R.warm hW (h6 q hqq), ⟨adV, (vk_S.kept (vk_S.moved hal h7) hk)⟩, ⟨(va_Z.kept (va_Z.moved hal h8) hk), (va_Zq.kept (va_Zq.moved hal h88) hk)⟩, (va_Z.kept (va_Z.moved hal h9) hk), (va_T.kept (va_T.moved hal h10) hk), (va_X.kept (va_X.moved hal h11) (hq _ h12)), h12⟩
  obtain ⟨k', hk', he⟩ := hal.2.2 _ _ h4
  exact ⟨k', hk', by rw [he]; exact h5⟩
theorem am_goodIn {ws : List Cond} (h : ∀ w9 ∈ ws, w9 ∈ am_big) : GoodIn am_big ws := fun w9 hw => ⟨h w9 hw, good_of_word (List.mem_filter.mp (h w9 hw)).2⟩
section KNC
variable {p : Program} {l : Launch} {e : Env} {R : Room} {s : State} {m : MethodId} {args : Array Value} {below : List Frame} {meth : Method} {c : Code} {Q : State → Prop} {cells slots : Nat}
theorem am_cont {H : Heap} {locs : List Loc} {mc ms pc : Nat} {cls : Array Slot} {st0 rest : List Value} {Qa : State → Outcome → State → Prop} {free : Addr → Prop} (hr : va_Run p l e R s m args below meth c H locs cells slots mc ms (F0 m pc cls st0) rest Qa free)
    (kk : ∀ (v : Option Value) (st₀ t : State) (L : List Loc), st₀.heap = H → Qa st₀ (.returned v) t → (∀ q ∈ L, free q.base) → W p l e R s m args below meth c t.heap (locs ++ L) (cells + mc) (slots + ms) Q (F0 m (pc + 3) cls (v.toList ++ rest))) : W p l e R s m args below meth c H locs cells slots Q (F0 m pc cls st0) := by
  intro T hT Y
  obtain ⟨v, st₀, t, T', L, h0, X', hL, e1, e2, hq, st⟩ := hr T hT Y
  obtain ⟨t2, a1, b1⟩ := kk v st₀ t L h0 hq hL T' e1 X'
  exact ⟨t2, st t2 a1, b1⟩
end KNC
def ys_length : MethodName := ⟨"java/lang/String", "length", "()I"⟩
set_option maxRecDepth 100000 in
theorem ys_length_c : lw_tbl[742]? = some (.code ys_length prog_15_method_54_code 1 (some .int)) := by decide +kernel
theorem ds_length_0 : decode prog_15_method_54_code 0 = .ok (.aload_n 0, 1) := by decide +kernel
theorem ds_length_1 : decode prog_15_method_54_code 1 = .ok (.getfield 9, 3) := by decide +kernel
theorem ds_length_4 : decode prog_15_method_54_code 4 = .ok (.arraylength, 1) := by decide +kernel
theorem ds_length_5 : decode prog_15_method_54_code 5 = .ok (.aload_n 0, 1) := by decide +kernel
theorem ds_length_6 : decode prog_15_method_54_code 6 = .ok (.invokevirtual 335, 3) := by decide +kernel
theorem ds_length_9 : decode prog_15_method_54_code 9 = .ok (.ishr, 1) := by decide +kernel
theorem ds_length_10 : decode prog_15_method_54_code 10 = .ok (.ireturn, 1) := by decide +kernel
def ys_coder : MethodName := ⟨"java/lang/String", "coder", "()B"⟩
set_option maxRecDepth 100000 in
theorem ys_coder_c : lw_tbl[746]? = some (.code ys_coder prog_15_method_152_code 1 (some .byte)) := by decide +kernel
theorem ds_coder_0 : decode prog_15_method_152_code 0 = .ok (.getstatic 38, 3) := by decide +kernel
theorem ds_coder_3 : decode prog_15_method_152_code 3 = .ok (.ifCond .eq 10, 3) := by decide +kernel
theorem ds_coder_6 : decode prog_15_method_152_code 6 = .ok (.aload_n 0, 1) := by decide +kernel
theorem ds_coder_7 : decode prog_15_method_152_code 7 = .ok (.getfield 15, 3) := by decide +kernel
theorem ds_coder_10 : decode prog_15_method_152_code 10 = .ok (.goto 4, 3) := by decide +kernel
theorem ds_coder_13 : decode prog_15_method_152_code 13 = .ok (.iconst 1, 1) := by decide +kernel
theorem ds_coder_14 : decode prog_15_method_152_code 14 = .ok (.ireturn, 1) := by decide +kernel
def ys_isLatin1 : MethodName := ⟨"java/lang/String", "isLatin1", "()Z"⟩
set_option maxRecDepth 100000 in
theorem ys_isLatin1_c : lw_tbl[756]? = some (.code ys_isLatin1 prog_15_method_154_code 1 (some .boolean)) := by decide +kernel
theorem ds_isLatin1_0 : decode prog_15_method_154_code 0 = .ok (.getstatic 38, 3) := by decide +kernel
theorem ds_isLatin1_3 : decode prog_15_method_154_code 3 = .ok (.ifCond .eq 14, 3) := by decide +kernel
theorem ds_isLatin1_6 : decode prog_15_method_154_code 6 = .ok (.aload_n 0, 1) := by decide +kernel
theorem ds_isLatin1_7 : decode prog_15_method_154_code 7 = .ok (.getfield 15, 3) := by decide +kernel
theorem ds_isLatin1_10 : decode prog_15_method_154_code 10 = .ok (.ifCond .ne 7, 3) := by decide +kernel
theorem ds_isLatin1_13 : decode prog_15_method_154_code 13 = .ok (.iconst 1, 1) := by decide +kernel
theorem ds_isLatin1_14 : decode prog_15_method_154_code 14 = .ok (.goto 4, 3) := by decide +kernel
theorem ds_isLatin1_17 : decode prog_15_method_154_code 17 = .ok (.iconst 0, 1) := by decide +kernel
theorem ds_isLatin1_18 : decode prog_15_method_154_code 18 = .ok (.ireturn, 1) := by decide +kernel
def ys_charAt : MethodName := ⟨"java/lang/String", "charAt", "(I)C"⟩
set_option maxRecDepth 100000 in
theorem ys_charAt_c : lw_tbl[752]? = some (.code ys_charAt prog_15_method_56_code 2 (some .char)) := by decide +kernel
theorem ds_charAt_0 : decode prog_15_method_56_code 0 = .ok (.aload_n 0, 1) := by decide +kernel
theorem ds_charAt_1 : decode prog_15_method_56_code 1 = .ok (.invokevirtual 492, 3) := by decide +kernel
theorem ds_charAt_4 : decode prog_15_method_56_code 4 = .ok (.ifCond .eq 12, 3) := by decide +kernel
theorem ds_charAt_7 : decode prog_15_method_56_code 7 = .ok (.aload_n 0, 1) := by decide +kernel
theorem ds_charAt_8 : decode prog_15_method_56_code 8 = .ok (.getfield 9, 3) := by decide +kernel
theorem ds_charAt_11 : decode prog_15_method_56_code 11 = .ok (.iload_n 1, 1) := by decide +kernel
theorem ds_charAt_12 : decode prog_15_method_56_code 12 = .ok (.invokestatic 495, 3) := by decide +kernel
theorem ds_charAt_15 : decode prog_15_method_56_code 15 = .ok (.ireturn, 1) := by decide +kernel
theorem ds_charAt_16 : decode prog_15_method_56_code 16 = .ok (.aload_n 0, 1) := by decide +kernel
theorem ds_charAt_17 : decode prog_15_method_56_code 17 = .ok (.getfield 9, 3) := by decide +kernel
theorem ds_charAt_20 : decode prog_15_method_56_code 20 = .ok (.iload_n 1, 1) := by decide +kernel
theorem ds_charAt_21 : decode prog_15_method_56_code 21 = .ok (.invokestatic 498, 3) := by decide +kernel
theorem ds_charAt_24 : decode prog_15_method_56_code 24 = .ok (.ireturn, 1) := by decide +kernel
def ys_lat : MethodName := ⟨"java/lang/StringLatin1", "charAt", "([BI)C"⟩
set_option maxRecDepth 100000 in
theorem ys_lat_c : lw_tbl[759]? = some (.code ys_lat prog_16_method_2_code 2 (some .char)) := by decide +kernel
theorem ds_lat_0 : decode prog_16_method_2_code 0 = .ok (.iload_n 1, 1) := by decide +kernel
theorem ds_lat_1 : decode prog_16_method_2_code 1 = .ok (.aload_n 0, 1) := by decide +kernel
theorem ds_lat_2 : decode prog_16_method_2_code 2 = .ok (.arraylength, 1) := by decide +kernel
theorem ds_lat_3 : decode prog_16_method_2_code 3 = .ok (.invokestatic 9, 3) := by decide +kernel
theorem ds_lat_6 : decode prog_16_method_2_code 6 = .ok (.aload_n 0, 1) := by decide +kernel
theorem ds_lat_7 : decode prog_16_method_2_code 7 = .ok (.iload_n 1, 1) := by decide +kernel
theorem ds_lat_8 : decode prog_16_method_2_code 8 = .ok (.baload, 1) := by decide +kernel
theorem ds_lat_9 : decode prog_16_method_2_code 9 = .ok (.sipush 255, 3) := by decide +kernel
theorem ds_lat_12 : decode prog_16_method_2_code 12 = .ok (.iand, 1) := by decide +kernel
theorem ds_lat_13 : decode prog_16_method_2_code 13 = .ok (.i2c, 1) := by decide +kernel
theorem ds_lat_14 : decode prog_16_method_2_code 14 = .ok (.ireturn, 1) := by decide +kernel
def ys_chk : MethodName := ⟨"java/lang/String", "checkIndex", "(II)V"⟩
set_option maxRecDepth 100000 in
theorem ys_chk_c : lw_tbl[762]? = some (.code ys_chk prog_15_method_155_code 2 none) := by decide +kernel
theorem ds_chk_0 : decode prog_15_method_155_code 0 = .ok (.iload_n 0, 1) := by decide +kernel
theorem ds_chk_1 : decode prog_15_method_155_code 1 = .ok (.iload_n 1, 1) := by decide +kernel
theorem ds_chk_2 : decode prog_15_method_155_code 2 = .ok (.getstatic 1053, 3) := by decide +kernel
theorem ds_chk_5 : decode prog_15_method_155_code 5 = .ok (.invokestatic 1059, 3) := by decide +kernel
theorem ds_chk_8 : decode prog_15_method_155_code 8 = .ok (.pop, 1) := by decide +kernel
theorem ds_chk_9 : decode prog_15_method_155_code 9 = .ok (.return_, 1) := by decide +kernel
def ys_pchk : MethodName := ⟨"jdk/internal/util/Preconditions", "checkIndex", "(IILjava/util/function/BiFunction;)I"⟩
set_option maxRecDepth 100000 in
theorem ys_pchk_c : lw_tbl[767]? = some (.code ys_pchk prog_18_method_11_code 3 (some .int)) := by decide +kernel
theorem ds_pchk_0 : decode prog_18_method_11_code 0 = .ok (.iload_n 0, 1) := by decide +kernel
theorem ds_pchk_1 : decode prog_18_method_11_code 1 = .ok (.ifCond .lt 8, 3) := by decide +kernel
theorem ds_pchk_4 : decode prog_18_method_11_code 4 = .ok (.iload_n 0, 1) := by decide +kernel
theorem ds_pchk_5 : decode prog_18_method_11_code 5 = .ok (.iload_n 1, 1) := by decide +kernel
theorem ds_pchk_6 : decode prog_18_method_11_code 6 = .ok (.if_icmp .lt 10, 3) := by decide +kernel
theorem ds_pchk_9 : decode prog_18_method_11_code 9 = .ok (.aload_n 2, 1) := by decide +kernel
theorem ds_pchk_10 : decode prog_18_method_11_code 10 = .ok (.iload_n 0, 1) := by decide +kernel
theorem ds_pchk_11 : decode prog_18_method_11_code 11 = .ok (.iload_n 1, 1) := by decide +kernel
theorem ds_pchk_12 : decode prog_18_method_11_code 12 = .ok (.invokestatic 95, 3) := by decide +kernel
theorem ds_pchk_15 : decode prog_18_method_11_code 15 = .ok (.athrow, 1) := by decide +kernel
theorem ds_pchk_16 : decode prog_18_method_11_code 16 = .ok (.iload_n 0, 1) := by decide +kernel
theorem ds_pchk_17 : decode prog_18_method_11_code 17 = .ok (.ireturn, 1) := by decide +kernel
def am_stw : List (Nat × Cond) := [(747, .fieldLink "java/lang/String" 38 "java/lang/String" "COMPACT_STRINGS" "Z"), (1452, .fieldLink "java/lang/String" 15 "java/lang/String" "coder" "B"), (1451, .fieldLink "java/lang/String" 9 "java/lang/String" "value" "[B"), (743, .methodLink "java/lang/String" 335 ys_coder), (744, .instanceMethod ys_coder), (745, .selects "java/lang/String" ys_coder ys_coder), (83, .initialized "java/lang/String"), (753, .methodLink "java/lang/String" 492 ys_isLatin1), (754, .instanceMethod ys_isLatin1), (755, .selects "java/lang/String" ys_isLatin1 ys_isLatin1), (757, .methodLink "java/lang/String" 495 ys_lat), (758, .static ys_lat), (84, .initialized "java/lang/StringLatin1"), (760, .methodLink "java/lang/StringLatin1" 9 ys_chk), (761, .static ys_chk), (763, .fieldLink "java/lang/String" 1053 "jdk/internal/util/Preconditions" "SIOOBE_FORMATTER" "Ljava/util/function/BiFunction;"), (765, .methodLink "java/lang/String" 1059 ys_pchk), (766, .static ys_pchk), (85, .initialized "jdk/internal/util/Preconditions"), (740, .instanceMethod ys_length), (741, .selects "java/lang/String" ys_length ys_length), (750, .instanceMethod ys_charAt), (751, .selects "java/lang/String" ys_charAt ys_charAt)]
set_option maxRecDepth 100000 in
theorem am_stw_ok : am_stw.all (fun q => decide (lw_tbl[q.1]? = some q.2)) = true := by decide +kernel
theorem am_stw_in {i9 : Nat} {t9 : Nat × Cond} (h : am_stw[i9]? = some t9) (hg : goodWord t9.2 = true) : t9.2 ∈ am_big := am_in (of_decide_eq_true (List.all_eq_true.mp am_stw_ok _ (List.mem_of_getElem? h))) hg
def am_PK (b : Nat) (ad : Nat → Nat) (D : va_G) (cy : Nat → ClassId) (X : Nat × (Nat → Int32)) (vs : List Value) : Array Value → State → Prop := fun a U => a = vs.toArray ∧ am_Kn b ad D cy X U U.heap ∧ b ≤ U.heap.size
def am_QK (r : Option Value) : Array Value → State → Outcome → State → Prop := fun _ st o t => o = .returned r ∧ t.heap = st.heap
theorem am_blindK {b : Nat} {ad : Nat → Nat} {D : va_G} {cy : Nat → ClassId} {X : Nat × (Nat → Int32)} {vs : List Value} : FrameBlind (am_PK b ad D cy X vs) := by
  intro a U g mk hp
  obtain ⟨h0, ⟨h1, h2, h3, ⟨kA, h4, h5⟩, h6, ⟨adV, h7⟩, ⟨h8, h88⟩, h9, h10, h11, h12⟩, hz⟩ := hp
  have hal : U.vm.Alike (U.calling g mk a).vm := Vm.Alike.refl U.vm
  exact ⟨h0, ⟨va_K.moved hal h1, fun q hqq => va_Nw.same rfl (rfl : U.vm = (U.calling g mk a).vm) (h2 q hqq), va_AO.moved hal h3, ⟨kA, h4, h5⟩, fun q hqq => vk_R.same (rfl : (U.calling g mk a).vm = U.vm) (h6 q hqq), ⟨adV, vk_S.moved hal h7⟩, ⟨va_Z.moved hal h8, va_Zq.moved hal h88⟩, va_Z.moved hal h9, va_T.moved hal h10, va_X.moved hal h11, h12⟩, hz⟩
/-- .. and a byte array is known -/
def am_PT (b : Nat) (ad : Nat → Nat) (D : va_G) (cy : Nat → ClassId) (X : Nat × (Nat → Int32)) (vs : List Value) (t9 n9 : Nat) (f9 : Nat → Value) : Array Value → State → Prop := fun a U => am_PK b ad D cy X vs a U ∧ va_T .byte t9 n9 f9 (am_A b) U U.heap
theorem am_blindT {b : Nat} {ad : Nat → Nat} {D : va_G} {cy : Nat → ClassId} {X : Nat × (Nat → Int32)} {vs : List Value} {t9 n9 : Nat} {f9 : Nat → Value} : FrameBlind (am_PT b ad D cy X vs t9 n9 f9) := by
  intro a U g mk hp
  exact ⟨am_blindK a U g mk hp.1, va_T.moved (Vm.Alike.refl U.vm) hp.2⟩
section KNR
variable {p : Program} {l : Launch} {e : Env} {R : Room} {s : State} {m : MethodId} {args : Array Value} {below : List Frame} {meth : Method} {c : Code} {Q : State → Prop} {cells slots : Nat}
/-- a call that changes nothing goes on -/
theorem am_contK {H : Heap} {locs : List Loc} {pc : Nat} {cls : Array Slot} {st0 rest : List Value} {r : Option Value} {a9 : Array Value} (hr : va_Run p l e R s m args below meth c H locs cells slots 0 0 (F0 m pc cls st0) rest (am_QK r a9) (fun _ => False)) (kk : W p l e R s m args below meth c H locs cells slots Q (F0 m (pc + 3) cls (r.toList ++ rest))) : W p l e R s m args below meth c H locs cells slots Q (F0 m pc cls st0) := by
  refine am_cont hr (fun v st₀ t L h0 hq hL => ?_)
  obtain ⟨q0, q1⟩ := hq
  cases q0
  have hLn : L = [] := by
    cases L with
    | nil => rfl
    | cons a l => exact (hL a List.mem_cons_self).elim
  subst hLn
  rw [q1, h0, List.append_nil]
  exact kk
theorem am_preK {b : Nat} {ad : Nat → Nat} {D : va_G} {cy : Nat → ClassId} {X : Nat × (Nat → Int32)} {vs : List Value} {H : Heap} {locs : List Loc} (hK : am_Kn b ad D cy X s s.heap) (hb : b ≤ s.heap.size) (hS : va_S (am_A b) s.heap H locs) : ∀ U : State, U.heap = H → s.WarmedH U.vm → am_PK b ad D cy X vs vs.toArray U := by
  intro U hU hW
  refine ⟨rfl, am_Kn_warm hK hW hb (fun q9 hq9 => ?_), ?_⟩
  · rw [hU]
    exact hS.2.1 q9 (Nat.lt_of_lt_of_le hq9 hb) (Nat.not_le.mpr hq9)
  · rw [hU]
    exact Nat.le_trans hb hS.1
theorem am_preT {b : Nat} {ad : Nat → Nat} {D : va_G} {cy : Nat → ClassId} {X : Nat × (Nat → Int32)} {vs : List Value} {t9 n9 : Nat} {f9 : Nat → Value} {H : Heap} {locs : List Loc} (hK : am_Kn b ad D cy X s s.heap) (hT : va_T .byte t9 n9 f9 (am_A b) s s.heap) (hb : b ≤ s.heap.size) (hS : va_S (am_A b) s.heap H locs) : ∀ U : State, U.heap = H → s.WarmedH U.vm → am_PT b ad D cy X vs t9 n9 f9 vs.toArray U := by
  intro U hU hW
  refine ⟨am_preK hK hb hS U hU hW, va_T.kept (va_T.moved hW.alike hT) (fun q9 h1 h2 => ?_)⟩
  rw [hU]
  exact hS.2.1 q9 h1 h2
end KNR
section STR
variable {l : Launch} {b : Nat} {ad : Nat → Nat} {D : va_G} {cy : Nat → ClassId} {X : Nat × (Nat → Int32)}
theorem cs_coder {i : Nat} (hi : i < 10) : Met l ys_coder (Cond.code ys_coder prog_15_method_152_code 1 (some .byte) :: am_big) ({ frames := 0, cells := 0, slots := 0, locals := 0 }) (am_PK b ad D cy X [.ref (ad i)]) (am_QK (some (.int 0))) 0 0 (fun _ => False) := by
  refine Met.ofW (cc := prog_15_method_152_code) (maxL := 1) (ret := (some .byte)) (by decide) rfl ?_
  intro p e s m args below meth c s₁ B hml hv
  obtain ⟨rfl, hK, hbs⟩ := hv
  have hx := B.exec
  have hb := B.bytes
  have hr := B.returns
  have hbig : ∀ w9 ∈ am_big, w9.before ([.ref (ad i)] : List Value).toArray s = true := fun w9 h9 => atoms_spec (ws := Cond.code ys_coder prog_15_method_152_code 1 (some .byte) :: am_big) B.pre w9 (List.mem_cons_of_mem _ h9)
  have hown : s.vm.findClass "java/lang/String" = some m.cls := findClass_of_methodNamed B.named
  have hlocks := B.notSynchronized
  have hS : va_S (am_A b) s.heap s.heap [] := va_S.rf
  obtain ⟨adV, hVS⟩ := hK.2.2.2.2.2.1
  have hl := lv_entry ([.ref (ad i)] : List Value) (n := 1) (Nat.le_of_ble_eq_true rfl)
  rw [lg_entry_eq]
  generalize (lg_sl ([.ref (ad i)]) ++ List.replicate (1 - (lg_sl ([.ref (ad i)])).length) Slot.unset).toArray = ls at hl ⊢
  have hl : lv_has ls 1 [(0, .ref (ad i))] := hl
  refine va_gets hx hb hK.2.2.2.2.2.2.1.1 hS hown (hbig _ (am_stw_in (i9 := 0) rfl rfl)) (fun _ z => z) ds_coder_0 ?_
  refine lv_if_eq hx hb ds_coder_3 (tgt := 13) rfl (fun h9 => absurd h9 (by decide)) (fun _ => ?_)
  refine lv_aload_n hx hb ds_coder_6 rfl (lv_at hl 0 rfl) ?_
  refine vk_getf hx hb (hVS.1 i hi).2.1 hS hown (hbig _ (am_stw_in (i9 := 1) rfl rfl)) (fun _ z => z) ds_coder_7 ?_
  refine lv_goto hx hb ds_coder_10 (tgt := 14) rfl ?_
  exact W.zret (ty := .byte) hx hb hr rfl (fun t ht _ => ⟨rfl, ht⟩) (fun _ h9 => (by cases h9)) ds_coder_14
theorem cs_isLatin1 {i : Nat} (hi : i < 10) : Met l ys_isLatin1 (Cond.code ys_isLatin1 prog_15_method_154_code 1 (some .boolean) :: am_big) ({ frames := 0, cells := 0, slots := 0, locals := 0 }) (am_PK b ad D cy X [.ref (ad i)]) (am_QK (some (.int 1))) 0 0 (fun _ => False) := by
  refine Met.ofW (cc := prog_15_method_154_code) (maxL := 1) (ret := (some .boolean)) (by decide) rfl ?_
  intro p e s m args below meth c s₁ B hml hv
  obtain ⟨rfl, hK, hbs⟩ := hv
  have hx := B.exec
  have hb := B.bytes
  have hr := B.returns
  have hbig : ∀ w9 ∈ am_big, w9.before ([.ref (ad i)] : List Value).toArray s = true := fun w9 h9 => atoms_spec (ws := Cond.code ys_isLatin1 prog_15_method_154_code 1 (some .boolean) :: am_big) B.pre w9 (List.mem_cons_of_mem _ h9)
  have hown : s.vm.findClass "java/lang/String" = some m.cls := findClass_of_methodNamed B.named
  have hlocks := B.notSynchronized
  have hS : va_S (am_A b) s.heap s.heap [] := va_S.rf
  obtain ⟨adV, hVS⟩ := hK.2.2.2.2.2.1
  have hl := lv_entry ([.ref (ad i)] : List Value) (n := 1) (Nat.le_of_ble_eq_true rfl)
  rw [lg_entry_eq]
  generalize (lg_sl ([.ref (ad i)]) ++ List.replicate (1 - (lg_sl ([.ref (ad i)])).length) Slot.unset).toArray = ls at hl ⊢
  have hl : lv_has ls 1 [(0, .ref (ad i))] := hl
  refine va_gets hx hb hK.2.2.2.2.2.2.1.1 hS hown (hbig _ (am_stw_in (i9 := 0) rfl rfl)) (fun _ z => z) ds_isLatin1_0 ?_
  refine lv_if_eq hx hb ds_isLatin1_3 (tgt := 17) rfl (fun h9 => absurd h9 (by decide)) (fun _ => ?_)
  refine lv_aload_n hx hb ds_isLatin1_6 rfl (lv_at hl 0 rfl) ?_
  refine vk_getf hx hb (hVS.1 i hi).2.1 hS hown (hbig _ (am_stw_in (i9 := 1) rfl rfl)) (fun _ z => z) ds_isLatin1_7 ?_
  refine lv_if_ne hx hb ds_isLatin1_10 (tgt := 17) rfl (fun h9 => absurd rfl h9) (fun _ => ?_)
  refine lv_iconst (v := 1) hx hb ds_isLatin1_13 (by decide) ?_
  refine lv_goto hx hb ds_isLatin1_14 (tgt := 18) rfl ?_
  exact W.zret (ty := .boolean) hx hb hr rfl (fun t ht _ => ⟨rfl, ht⟩) (fun _ h9 => (by cases h9)) ds_isLatin1_18
theorem cs_length {i : Nat} (hi : i < 10) : Met l ys_length (Cond.code ys_length prog_15_method_54_code 1 (some .int) :: am_big) ({ frames := 1, cells := 0, slots := 0, locals := 40 }) (am_PK b ad D cy X [.ref (ad i)]) (am_QK (some (.int (Int32.ofNat (am_slen.getD i 0))))) 0 0 (fun _ => False) := by
  refine Met.ofW (cc := prog_15_method_54_code) (maxL := 1) (ret := (some .int)) (by decide) rfl ?_
  intro p e s m args below meth c s₁ B hml hv
  obtain ⟨rfl, hK, hbs⟩ := hv
  have hx := B.exec
  have hb := B.bytes
  have hr := B.returns
  have hbig : ∀ w9 ∈ am_big, w9.before ([.ref (ad i)] : List Value).toArray s = true := fun w9 h9 => atoms_spec (ws := Cond.code ys_length prog_15_method_54_code 1 (some .int) :: am_big) B.pre w9 (List.mem_cons_of_mem _ h9)
  have hown : s.vm.findClass "java/lang/String" = some m.cls := findClass_of_methodNamed B.named
  have hlocks := B.notSynchronized
  have hS : va_S (am_A b) s.heap s.heap [] := va_S.rf
  obtain ⟨adV, hVS⟩ := hK.2.2.2.2.2.1
  have hl := lv_entry ([.ref (ad i)] : List Value) (n := 1) (Nat.le_of_ble_eq_true rfl)
  rw [lg_entry_eq]
  generalize (lg_sl ([.ref (ad i)]) ++ List.replicate (1 - (lg_sl ([.ref (ad i)])).length) Slot.unset).toArray = ls at hl ⊢
  have hl : lv_has ls 1 [(0, .ref (ad i))] := hl
  refine lv_aload_n hx hb ds_length_0 rfl (lv_at hl 0 rfl) ?_
  refine vk_getf hx hb (hVS.1 i hi).2.2.1 hS hown (hbig _ (am_stw_in (i9 := 2) rfl rfl)) (fun _ z => z) ds_length_1 ?_
  refine va_tlen hx hb (hVS.1 i hi).2.2.2 hS rfl ds_length_4 ?_
  refine lv_aload_n hx hb ds_length_5 rfl (lv_at hl 0 rfl) ?_
  refine am_contK (va_runV (As := []) (rest := [.int (Int32.ofNat (am_slen.getD i 0))]) ⟨hx, hb, hml, hown, hbig⟩ (cs_coder (l := l) (D := D) (cy := cy) (X := X) hi) (cwV 0 hbig (am_goodIn (ws := wsV "java/lang/String" 335 "java/lang/String" ys_coder (Cond.code ys_coder prog_15_method_152_code 1 (some .byte) :: am_big)) (fun w9 hw9 => by
    unfold wsV at hw9
    rcases List.mem_append.mp hw9 with h9 | h9
    · simp only [List.mem_cons, List.not_mem_nil, or_false] at h9
      rcases h9 with rfl | rfl | rfl | rfl
      · exact am_stw_in (i9 := 3) rfl rfl
      · exact am_stw_in (i9 := 4) rfl rfl
      · exact am_stw_in (i9 := 5) rfl rfl
      · exact am_stw_in (i9 := 6) rfl rfl
    · rcases List.mem_cons.mp h9 with rfl | h8
      · exact am_in ys_coder_c rfl
      · exact h8)) rfl rfl rfl (by decide +kernel) ⟨Nat.le_of_ble_eq_true rfl, Nat.le_of_ble_eq_true rfl⟩) ⟨am_blindK, vk_recv hVS hi hS, am_preK (vs := [.ref (ad i)]) hK hbs hS⟩ rfl rfl hl.1 rfl (lv_room (Nat.le_of_ble_eq_true rfl)) ds_length_6 ⟨Nat.le_refl _, Nat.le_refl _⟩) ?_
  refine lv_ishr hx hb ds_length_9 ?_
  rw [sb_shr0]
  exact W.iret hx hb hr (fun t ht _ => ⟨rfl, ht⟩) (fun _ h9 => (by cases h9)) ds_length_10
theorem cs_pchkN {k n : Int32} (h0 : ¬ k < 0) (h1 : k < n) : Met l ys_pchk (Cond.code ys_pchk prog_18_method_11_code 3 (some .int) :: am_big) ({ frames := 0, cells := 0, slots := 0, locals := 0 }) (am_PK b ad D cy X [.int k, .int n, .null]) (am_QK (some (.int k))) 0 0 (fun _ => False) := by
  refine Met.ofW (cc := prog_18_method_11_code) (maxL := 3) (ret := (some .int)) (by decide) rfl ?_
  intro p e s m args below meth c s₁ B hml hv
  obtain ⟨rfl, hK, hbs⟩ := hv
  have hx := B.exec
  have hb := B.bytes
  have hr := B.returns
  have hbig : ∀ w9 ∈ am_big, w9.before ([.int k, .int n, .null] : List Value).toArray s = true := fun w9 h9 => atoms_spec (ws := Cond.code ys_pchk prog_18_method_11_code 3 (some .int) :: am_big) B.pre w9 (List.mem_cons_of_mem _ h9)
  have hown : s.vm.findClass "jdk/internal/util/Preconditions" = some m.cls := findClass_of_methodNamed B.named
  have hlocks := B.notSynchronized
  have hS : va_S (am_A b) s.heap s.heap [] := va_S.rf
  obtain ⟨adV, hVS⟩ := hK.2.2.2.2.2.1
  have hl := lv_entry ([.int k, .int n, .null] : List Value) (n := 3) (Nat.le_of_ble_eq_true rfl)
  rw [lg_entry_eq]
  generalize (lg_sl ([.int k, .int n, .null]) ++ List.replicate (3 - (lg_sl ([.int k, .int n, .null])).length) Slot.unset).toArray = ls at hl ⊢
  have hl : lv_has ls 3 [(0, .int k), (1, .int n), (2, .null)] := hl
  refine lv_iload_n hx hb ds_pchk_0 rfl (lv_at hl 0 rfl) ?_
  refine lv_if_lt hx hb ds_pchk_1 (tgt := 9) rfl (fun h9 => absurd h9 h0) (fun _ => ?_)
  refine lv_iload_n hx hb ds_pchk_4 rfl (lv_at hl 0 rfl) ?_
  refine lv_iload_n hx hb ds_pchk_5 rfl (lv_at hl 1 rfl) ?_
  refine lv_icmp_lt hx hb ds_pchk_6 (tgt := 16) rfl (fun _ => ?_) (fun h9 => absurd h1 h9)
  refine lv_iload_n hx hb ds_pchk_16 rfl (lv_at hl 0 rfl) ?_
  exact W.iret hx hb hr (fun t ht _ => ⟨rfl, ht⟩) (fun _ h9 => (by cases h9)) ds_pchk_17
theorem cs_pchkR {u9 : Nat} {k n : Int32} (h0 : ¬ k < 0) (h1 : k < n) : Met l ys_pchk (Cond.code ys_pchk prog_18_method_11_code 3 (some .int) :: am_big) ({ frames := 0, cells := 0, slots := 0, locals := 0 }) (am_PK b ad D cy X [.int k, .int n, .ref u9]) (am_QK (some (.int k))) 0 0 (fun _ => False) := by
  refine Met.ofW (cc := prog_18_method_11_code) (maxL := 3) (ret := (some .int)) (by decide) rfl ?_
  intro p e s m args below meth c s₁ B hml hv
  obtain ⟨rfl, hK, hbs⟩ := hv
  have hx := B.exec
  have hb := B.bytes
  have hr := B.returns
  have hbig : ∀ w9 ∈ am_big, w9.before ([.int k, .int n, .ref u9] : List Value).toArray s = true := fun w9 h9 => atoms_spec (ws := Cond.code ys_pchk prog_18_method_11_code 3 (some .int) :: am_big) B.pre w9 (List.mem_cons_of_mem _ h9)
  have hown : s.vm.findClass "jdk/internal/util/Preconditions" = some m.cls := findClass_of_methodNamed B.named
  have hlocks := B.notSynchronized
  have hS : va_S (am_A b) s.heap s.heap [] := va_S.rf
  obtain ⟨adV, hVS⟩ := hK.2.2.2.2.2.1
  have hl := lv_entry ([.int k, .int n, .ref u9] : List Value) (n := 3) (Nat.le_of_ble_eq_true rfl)
  rw [lg_entry_eq]
  generalize (lg_sl ([.int k, .int n, .ref u9]) ++ List.replicate (3 - (lg_sl ([.int k, .int n, .ref u9])).length) Slot.unset).toArray = ls at hl ⊢
  have hl : lv_has ls 3 [(0, .int k), (1, .int n), (2, .ref u9)] := hl
  refine lv_iload_n hx hb ds_pchk_0 rfl (lv_at hl 0 rfl) ?_
  refine lv_if_lt hx hb ds_pchk_1 (tgt := 9) rfl (fun h9 => absurd h9 h0) (fun _ => ?_)
  refine lv_iload_n hx hb ds_pchk_4 rfl (lv_at hl 0 rfl) ?_
  refine lv_iload_n hx hb ds_pchk_5 rfl (lv_at hl 1 rfl) ?_
  refine lv_icmp_lt hx hb ds_pchk_6 (tgt := 16) rfl (fun _ => ?_) (fun h9 => absurd h1 h9)
  refine lv_iload_n hx hb ds_pchk_16 rfl (lv_at hl 0 rfl) ?_
  exact W.iret hx hb hr (fun t ht _ => ⟨rfl, ht⟩) (fun _ h9 => (by cases h9)) ds_pchk_17
theorem cs_chk {k n : Int32} (h0 : ¬ k < 0) (h1 : k < n) : Met l ys_chk (Cond.code ys_chk prog_15_method_155_code 2 none :: am_big) ({ frames := 1, cells := 0, slots := 0, locals := 40 }) (am_PK b ad D cy X [.int k, .int n]) (am_QK none) 0 0 (fun _ => False) := by
  refine Met.ofW (cc := prog_15_method_155_code) (maxL := 2) (ret := none) (by decide) rfl ?_
  intro p e s m args below meth c s₁ B hml hv
  obtain ⟨rfl, hK, hbs⟩ := hv
  have hx := B.exec
  have hb := B.bytes
  have hr := B.returns
  have hbig : ∀ w9 ∈ am_big, w9.before ([.int k, .int n] : List Value).toArray s = true := fun w9 h9 => atoms_spec (ws := Cond.code ys_chk prog_15_method_155_code 2 none :: am_big) B.pre w9 (List.mem_cons_of_mem _ h9)
  have hown : s.vm.findClass "java/lang/String" = some m.cls := findClass_of_methodNamed B.named
  have hlocks := B.notSynchronized
  have hS : va_S (am_A b) s.heap s.heap [] := va_S.rf
  obtain ⟨adV, hVS⟩ := hK.2.2.2.2.2.1
  have hl := lv_entry ([.int k, .int n] : List Value) (n := 2) (Nat.le_of_ble_eq_true rfl)
  rw [lg_entry_eq]
  generalize (lg_sl ([.int k, .int n]) ++ List.replicate (2 - (lg_sl ([.int k, .int n])).length) Slot.unset).toArray = ls at hl ⊢
  have hl : lv_has ls 2 [(0, .int k), (1, .int n)] := hl
  refine lv_iload_n hx hb ds_chk_0 rfl (lv_at hl 0 rfl) ?_
  refine lv_iload_n hx hb ds_chk_1 rfl (lv_at hl 1 rfl) ?_
  rcases hK.2.2.2.2.2.2.1.2 with hz | ⟨u9, hz⟩
  · refine va_gets hx hb hz hS hown (hbig _ (am_stw_in (i9 := 15) rfl rfl)) (fun _ z => z) ds_chk_2 ?_
    refine am_contK (va_runS (As := [.int k, .int n, .null]) (rest := []) ⟨hx, hb, hml, hown, hbig⟩ (cs_pchkN (l := l) (D := D) (cy := cy) (X := X) h0 h1) (va_cwS 3 hbig (am_goodIn (ws := va_wsS "java/lang/String" 1059 ys_pchk (Cond.code ys_pchk prog_18_method_11_code 3 (some .int) :: am_big)) (fun w9 hw9 => by
      unfold va_wsS at hw9
      rcases List.mem_append.mp hw9 with h9 | h9
      · simp only [List.mem_cons, List.not_mem_nil, or_false] at h9
        rcases h9 with rfl | rfl | rfl
        · exact am_stw_in (i9 := 16) rfl rfl
        · exact am_stw_in (i9 := 17) rfl rfl
        · exact am_stw_in (i9 := 18) rfl rfl
      · rcases List.mem_cons.mp h9 with rfl | h8
        · exact am_in ys_pchk_c rfl
        · exact h8)) rfl rfl rfl (by decide +kernel) ⟨Nat.le_of_ble_eq_true rfl, Nat.le_of_ble_eq_true rfl⟩) ⟨am_blindK, am_preK (vs := [.int k, .int n, .null]) hK hbs hS⟩ rfl rfl hl.1 rfl (lv_room (Nat.le_of_ble_eq_true rfl)) ds_chk_5 ⟨Nat.le_refl _, Nat.le_refl _⟩) ?_
    refine lv_pop hx hb ds_chk_8 rfl ?_
    exact W.vret hx hb hr (fun t ht _ => ⟨rfl, ht⟩) (fun _ h9 => (by cases h9)) ds_chk_9
  · refine va_gets hx hb hz hS hown (hbig _ (am_stw_in (i9 := 15) rfl rfl)) (fun _ z => z) ds_chk_2 ?_
    refine am_contK (va_runS (As := [.int k, .int n, .ref u9]) (rest := []) ⟨hx, hb, hml, hown, hbig⟩ (cs_pchkR (l := l) (D := D) (cy := cy) (X := X) h0 h1) (va_cwS 3 hbig (am_goodIn (ws := va_wsS "java/lang/String" 1059 ys_pchk (Cond.code ys_pchk prog_18_method_11_code 3 (some .int) :: am_big)) (fun w9 hw9 => by
      unfold va_wsS at hw9
      rcases List.mem_append.mp hw9 with h9 | h9
      · simp only [List.mem_cons, List.not_mem_nil, or_false] at h9
        rcases h9 with rfl | rfl | rfl
        · exact am_stw_in (i9 := 16) rfl rfl
        · exact am_stw_in (i9 := 17) rfl rfl
        · exact am_stw_in (i9 := 18) rfl rfl
      · rcases List.mem_cons.mp h9 with rfl | h8
        · exact am_in ys_pchk_c rfl
        · exact h8)) rfl rfl rfl (by decide +kernel) ⟨Nat.le_of_ble_eq_true rfl, Nat.le_of_ble_eq_true rfl⟩) ⟨am_blindK, am_preK (vs := [.int k, .int n, .ref u9]) hK hbs hS⟩ rfl rfl hl.1 rfl (lv_room (Nat.le_of_ble_eq_true rfl)) ds_chk_5 ⟨Nat.le_refl _, Nat.le_refl _⟩) ?_
    refine lv_pop hx hb ds_chk_8 rfl ?_
    exact W.vret hx hb hr (fun t ht _ => ⟨rfl, ht⟩) (fun _ h9 => (by cases h9)) ds_chk_9
theorem cs_lat {i : Nat} {k : Int32} {t9 : Nat} (h0 : ¬ k < 0) (h1 : k < Int32.ofNat (am_slen.getD i 0)) (hin : vp_in k (am_slen.getD i 0)) (hch : narrow .char (.int ((((am_sbT.getD i []).getD k.toNatClampNeg 0) &&& 255).toUInt32 % 65536).toInt32) = .int ((((am_sbT.getD i []).getD k.toNatClampNeg 0) &&& 255).toUInt32 % 65536).toInt32) : Met l ys_lat (Cond.code ys_lat prog_16_method_2_code 2 (some .char) :: am_big) ({ frames := 2, cells := 0, slots := 0, locals := 80 }) (am_PT b ad D cy X [.ref t9, .int k] t9 (am_slen.getD i 0) (fun z => .int ((am_sbT.getD i []).getD z 0))) (am_QK (some (.int ((((am_sbT.getD i []).getD k.toNatClampNeg 0) &&& 255).toUInt32 % 65536).toInt32))) 0 0 (fun _ => False) := by
  refine Met.ofW (cc := prog_16_method_2_code) (maxL := 2) (ret := (some .char)) (by decide) rfl ?_
  intro p e s m args below meth c s₁ B hml hv
  obtain ⟨⟨rfl, hK, hbs⟩, hT⟩ := hv
  have hx := B.exec
  have hb := B.bytes
  have hr := B.returns
  have hbig : ∀ w9 ∈ am_big, w9.before ([.ref t9, .int k] : List Value).toArray s = true := fun w9 h9 => atoms_spec (ws := Cond.code ys_lat prog_16_method_2_code 2 (some .char) :: am_big) B.pre w9 (List.mem_cons_of_mem _ h9)
  have hown : s.vm.findClass "java/lang/StringLatin1" = some m.cls := findClass_of_methodNamed B.named
  have hlocks := B.notSynchronized
  have hS : va_S (am_A b) s.heap s.heap [] := va_S.rf
  obtain ⟨adV, hVS⟩ := hK.2.2.2.2.2.1
  have hl := lv_entry ([.ref t9, .int k] : List Value) (n := 2) (Nat.le_of_ble_eq_true rfl)
  rw [lg_entry_eq]
  generalize (lg_sl ([.ref t9, .int k]) ++ List.replicate (2 - (lg_sl ([.ref t9, .int k])).length) Slot.unset).toArray = ls at hl ⊢
  have hl : lv_has ls 2 [(0, .ref t9), (1, .int k)] := hl
  refine lv_iload_n hx hb ds_lat_0 rfl (lv_at hl 1 rfl) ?_
  refine lv_aload_n hx hb ds_lat_1 rfl (lv_at hl 0 rfl) ?_
  refine va_tlen hx hb hT hS rfl ds_lat_2 ?_
  refine am_contK (va_runS (As := [.int k, .int (Int32.ofNat (am_slen.getD i 0))]) (rest := []) ⟨hx, hb, hml, hown, hbig⟩ (cs_chk (l := l) (D := D) (cy := cy) (X := X) h0 h1) (va_cwS 2 hbig (am_goodIn (ws := va_wsS "java/lang/StringLatin1" 9 ys_chk (Cond.code ys_chk prog_15_method_155_code 2 none :: am_big)) (fun w9 hw9 => by
    unfold va_wsS at hw9
    rcases List.mem_append.mp hw9 with h9 | h9
    · simp only [List.mem_cons, List.not_mem_nil, or_false] at h9
      rcases h9 with rfl | rfl | rfl
      · exact am_stw_in (i9 := 13) rfl rfl
      · exact am_stw_in (i9 := 14) rfl rfl
      · exact am_stw_in (i9 := 6) rfl rfl
    · rcases List.mem_cons.mp h9 with rfl | h8
      · exact am_in ys_chk_c rfl
      · exact h8)) rfl rfl rfl (by decide +kernel) ⟨Nat.le_of_ble_eq_true rfl, Nat.le_of_ble_eq_true rfl⟩) ⟨am_blindK, am_preK (vs := [.int k, .int (Int32.ofNat (am_slen.getD i 0))]) hK hbs hS⟩ rfl rfl hl.1 rfl (lv_room (Nat.le_of_ble_eq_true rfl)) ds_lat_3 ⟨Nat.le_refl _, Nat.le_refl _⟩) ?_
  refine lv_aload_n hx hb ds_lat_6 rfl (lv_at hl 0 rfl) ?_
  refine lv_iload_n hx hb ds_lat_7 rfl (lv_at hl 1 rfl) ?_
  refine va_tb hx hb hT hS hin rfl ds_lat_8 ?_
  refine lv_sipush (v := 255) hx hb ds_lat_9 (by decide) ?_
  refine lv_iand hx hb ds_lat_12 ?_
  refine lv_i2c hx hb ds_lat_13 rfl ?_
  exact W.zret (ty := .char) hx hb hr hch (fun t ht _ => ⟨rfl, ht⟩) (fun _ h9 => (by cases h9)) ds_lat_14
theorem cs_charAt {i : Nat} {k : Int32} (hi : i < 10) (h0 : ¬ k < 0) (h1 : k < Int32.ofNat (am_slen.getD i 0)) (hin : vp_in k (am_slen.getD i 0)) (hch : narrow .char (.int ((((am_sbT.getD i []).getD k.toNatClampNeg 0) &&& 255).toUInt32 % 65536).toInt32) = .int ((((am_sbT.getD i []).getD k.toNatClampNeg 0) &&& 255).toUInt32 % 65536).toInt32) : Met l ys_charAt (Cond.code ys_charAt prog_15_method_56_code 2 (some .char) :: am_big) ({ frames := 3, cells := 0, slots := 0, locals := 120 }) (am_PK b ad D cy X [.ref (ad i), .int k]) (am_QK (some (.int ((((am_sbT.getD i []).getD k.toNatClampNeg 0) &&& 255).toUInt32 % 65536).toInt32))) 0 0 (fun _ => False) := by
  refine Met.ofW (cc := prog_15_method_56_code) (maxL := 2) (ret := (some .char)) (by decide) rfl ?_
  intro p e s m args below meth c s₁ B hml hv
  obtain ⟨rfl, hK, hbs⟩ := hv
  have hx := B.exec
  have hb := B.bytes
  have hr := B.returns
  have hbig : ∀ w9 ∈ am_big, w9.before ([.ref (ad i), .int k] : List Value).toArray s = true := fun w9 h9 => atoms_spec (ws := Cond.code ys_charAt prog_15_method_56_code 2 (some .char) :: am_big) B.pre w9 (List.mem_cons_of_mem _ h9)
  have hown : s.vm.findClass "java/lang/String" = some m.cls := findClass_of_methodNamed B.named
  have hlocks := B.notSynchronized
  have hS : va_S (am_A b) s.heap s.heap [] := va_S.rf
  obtain ⟨adV, hVS⟩ := hK.2.2.2.2.2.1
  have hl := lv_entry ([.ref (ad i), .int k] : List Value) (n := 2) (Nat.le_of_ble_eq_true rfl)
  rw [lg_entry_eq]
  generalize (lg_sl ([.ref (ad i), .int k]) ++ List.replicate (2 - (lg_sl ([.ref (ad i), .int k])).length) Slot.unset).toArray = ls at hl ⊢
  have hl : lv_has ls 2 [(0, .ref (ad i)), (1, .int k)] := hl
  refine lv_aload_n hx hb ds_charAt_0 rfl (lv_at hl 0 rfl) ?_
  refine am_contK (va_runV (As := []) (rest := []) ⟨hx, hb, hml, hown, hbig⟩ (cs_isLatin1 (l := l) (D := D) (cy := cy) (X := X) hi) (cwV 0 hbig (am_goodIn (ws := wsV "java/lang/String" 492 "java/lang/String" ys_isLatin1 (Cond.code ys_isLatin1 prog_15_method_154_code 1 (some .boolean) :: am_big)) (fun w9 hw9 => by
    unfold wsV at hw9
    rcases List.mem_append.mp hw9 with h9 | h9
    · simp only [List.mem_cons, List.not_mem_nil, or_false] at h9
      rcases h9 with rfl | rfl | rfl | rfl
      · exact am_stw_in (i9 := 7) rfl rfl
      · exact am_stw_in (i9 := 8) rfl rfl
      · exact am_stw_in (i9 := 9) rfl rfl
      · exact am_stw_in (i9 := 6) rfl rfl
    · rcases List.mem_cons.mp h9 with rfl | h8
      · exact am_in ys_isLatin1_c rfl
      · exact h8)) rfl rfl rfl (by decide +kernel) ⟨Nat.le_of_ble_eq_true rfl, Nat.le_of_ble_eq_true rfl⟩) ⟨am_blindK, vk_recv hVS hi hS, am_preK (vs := [.ref (ad i)]) hK hbs hS⟩ rfl rfl hl.1 rfl (lv_room (Nat.le_of_ble_eq_true rfl)) ds_charAt_1 ⟨Nat.le_refl _, Nat.le_refl _⟩) ?_
  refine lv_if_eq hx hb ds_charAt_4 (tgt := 16) rfl (fun h9 => absurd h9 (by decide)) (fun _ => ?_)
  refine lv_aload_n hx hb ds_charAt_7 rfl (lv_at hl 0 rfl) ?_
  refine vk_getf hx hb (hVS.1 i hi).2.2.1 hS hown (hbig _ (am_stw_in (i9 := 2) rfl rfl)) (fun _ z => z) ds_charAt_8 ?_
  refine lv_iload_n hx hb ds_charAt_11 rfl (lv_at hl 1 rfl) ?_
  refine am_contK (va_runS (As := [.ref (adV i), .int k]) (rest := []) ⟨hx, hb, hml, hown, hbig⟩ (cs_lat (l := l) (D := D) (cy := cy) (X := X) (i := i) (t9 := adV i) h0 h1 hin hch) (va_cwS 2 hbig (am_goodIn (ws := va_wsS "java/lang/String" 495 ys_lat (Cond.code ys_lat prog_16_method_2_code 2 (some .char) :: am_big)) (fun w9 hw9 => by
    unfold va_wsS at hw9
    rcases List.mem_append.mp hw9 with h9 | h9
    · simp only [List.mem_cons, List.not_mem_nil, or_false] at h9
      rcases h9 with rfl | rfl | rfl
      · exact am_stw_in (i9 := 10) rfl rfl
      · exact am_stw_in (i9 := 11) rfl rfl
      · exact am_stw_in (i9 := 12) rfl rfl
    · rcases List.mem_cons.mp h9 with rfl | h8
      · exact am_in ys_lat_c rfl
      · exact h8)) rfl rfl rfl (by decide +kernel) ⟨Nat.le_of_ble_eq_true rfl, Nat.le_of_ble_eq_true rfl⟩) ⟨am_blindT, am_preT (vs := [.ref (adV i), .int k]) hK (hVS.1 i hi).2.2.2 hbs hS⟩ rfl rfl hl.1 rfl (lv_room (Nat.le_of_ble_eq_true rfl)) ds_charAt_12 ⟨Nat.le_refl _, Nat.le_refl _⟩) ?_
  exact W.zret (ty := .char) hx hb hr hch (fun t ht _ => ⟨rfl, ht⟩) (fun _ h9 => (by cases h9)) ds_charAt_15
end STR
end
section
/-! ===== int[][] : a making of n rows of k ints, over the machine's own multianewarray ===== -/
section MN
variable {E : CtlPost} {e : Env} {d : Bool} {acts : List Action} {s : State}
theorem am_newArr {c9 comp : ClassId} {n9 : Nat} {v9 : Value} {kA : Class} {ty9 : FieldType} {Q9 : Addr → Pre} (hk : s.vm.classes[c9]? = some kA) (hkind : kA.kind = .array comp ty9) (h1 : ¬ n9 > e.platform.arrayLengthLimit) (h2 : ¬ n9 * componentBytes ty9 > e.platform.maxHeapBytes) (hf : fits ty9 v9 = true) (hc : s.heap.size < e.platform.maxCells) (hs : s.slotsUsed + n9 ≤ e.platform.maxSlots)
    (hQ : ∀ d8 acts8, Q9 s.heap.size d8 acts8 (s.pushCell { cls := c9, slots := Array.replicate n9 v9, vm := .none })) : wp (Jvm.newArray c9 n9 v9) Q9 E e d acts s := by
  have hfit : ∀ i w, (Array.replicate n9 v9)[i]? = some w → s.fitsSlot c9 .none i w = true := by
    intro i w hw
    simp only [Array.getElem?_replicate] at hw
    split at hw
    · cases hw; simp [State.fitsSlot, State.slotType?, hk, hkind, hf]
    · cases hw
  have hn : ¬ n9 > e.platform.maxSlots := by omega
  simp only [Jvm.newArray, Jvm.arrayFits, wp_bind', W.ask, W.ite, h1, if_false, wp_pure', W.theClass, hk, Option.some.injEq, exists_eq_left', hkind, h2, hn, W.alloc, Array.size_replicate]
  exact ⟨hc, hs, hfit, hQ _ _⟩
/-- the outer array when i rows are made -/
def am_oc (cA : ClassId) (n9 h9 i9 : Nat) : Cell := { cls := cA, slots := Array.ofFn (fun j : Fin n9 => if j.val < i9 then Value.ref (h9 + 1 + j.val) else Value.null), vm := .none }
def am_ic (cI : ClassId) (k9 : Nat) : Cell := { cls := cI, slots := Array.replicate k9 (.int 0), vm := .none }
theorem am_oc_zero (cA : ClassId) (n9 h9 : Nat) : ({ cls := cA, slots := Array.replicate n9 .null, vm := .none } : Cell) = am_oc cA n9 h9 0 := by
  unfold am_oc
  congr 1
  apply Array.ext
  · rw [Array.size_replicate, Array.size_ofFn]
  · intro i h1 h2
    rw [Array.getElem_replicate, Array.getElem_ofFn, if_neg (Nat.not_lt_zero _)]
theorem am_oc_succ (cA : ClassId) (n9 h9 i9 : Nat) (hi : i9 < n9) : (am_oc cA n9 h9 i9).setSlot i9 (.ref (h9 + 1 + i9)) = am_oc cA n9 h9 (i9 + 1) := by
  unfold am_oc Cell.setSlot
  congr 1
  apply Array.ext
  · rw [Array.size_setIfInBounds, Array.size_ofFn, Array.size_ofFn]
  · intro i h1 h2
    rw [Array.size_ofFn] at h2
    have hr : (Array.ofFn (fun j : Fin n9 => if j.val < i9 + 1 then Value.ref (h9 + 1 + j.val) else Value.null))[i]'(by rw [Array.size_ofFn]; exact h2) = if i < i9 + 1 then Value.ref (h9 + 1 + i) else Value.null := Array.getElem_ofFn ..
    rw [hr, Array.getElem_setIfInBounds (by rw [Array.size_ofFn]; exact h2)]
    by_cases hq : i9 = i
    · rw [if_pos hq, if_pos (show i < i9 + 1 by omega), hq]
    · rw [if_neg hq, Array.getElem_ofFn]
      by_cases hw : i < i9
      · rw [if_pos hw, if_pos (show i < i9 + 1 by omega)]
      · rw [if_neg hw, if_neg (show ¬ i < i9 + 1 by omega)]
/-- the machine's state when i rows are made -/
def am_fl (T : State) (cA cI : ClassId) (n9 k9 : Nat) : Nat → State
  | 0 => T.pushCell (am_oc cA n9 T.heap.size 0)
  | i9 + 1 => ((am_fl T cA cI n9 k9 i9).pushCell (am_ic cI k9)).setCell T.heap.size (am_oc cA n9 T.heap.size (i9 + 1))
theorem am_fl_top (T : State) (cA cI : ClassId) (n9 k9 : Nat) (g9 : JFrame) (i9 : Nat) : am_fl (T.setTop g9) cA cI n9 k9 i9 = (am_fl T cA cI n9 k9 i9).setTop g9 := by
  induction i9 with
  | zero => rfl
  | succ i ih =>
    show ((am_fl (T.setTop g9) cA cI n9 k9 i).pushCell _).setCell _ _ = _
    rw [ih]
    rfl
theorem am_fl_vm (T : State) (cA cI : ClassId) (n9 k9 i9 : Nat) : (am_fl T cA cI n9 k9 i9).vm = T.vm := by
  induction i9 with
  | zero => rfl
  | succ i ih => exact ih
theorem am_fl_tj (T : State) (cA cI : ClassId) (n9 k9 i9 : Nat) : (am_fl T cA cI n9 k9 i9).topJava? = T.topJava? := by
  induction i9 with
  | zero => rfl
  | succ i ih => exact ih
theorem am_fl_heap (T : State) (cA cI : ClassId) (n9 k9 : Nat) : ∀ i9, (am_fl T cA cI n9 k9 i9).heap.size = T.heap.size + 1 + i9 ∧ (am_fl T cA cI n9 k9 i9).heap[T.heap.size]? = some (am_oc cA n9 T.heap.size i9) ∧ (∀ z, z < T.heap.size → (am_fl T cA cI n9 k9 i9).heap[z]? = T.heap[z]?) ∧ (∀ q, q < i9 → (am_fl T cA cI n9 k9 i9).heap[T.heap.size + 1 + q]? = some (am_ic cI k9)) ∧ (am_fl T cA cI n9 k9 i9).slotsUsed = T.slotsUsed + n9 + i9 * k9
  | 0 => by
    refine ⟨?_, ?_, fun z hz => ?_, fun q hq => absurd hq (Nat.not_lt_zero _), ?_⟩
    · show (T.heap.push _).size = _
      rw [Array.size_push]
    · show (T.heap.push _)[T.heap.size]? = _
      rw [Array.getElem?_push, if_pos rfl]
    · show (T.heap.push _)[z]? = _
      rw [Array.getElem?_push, if_neg (by omega)]
    · show T.slotsUsed + (am_oc cA n9 T.heap.size 0).slots.size = _
      unfold am_oc
      rw [Array.size_ofFn]; omega
  | i9 + 1 => by
    obtain ⟨h1, h2, h3, h4, h5⟩ := am_fl_heap T cA cI n9 k9 i9
    have hh : (am_fl T cA cI n9 k9 (i9 + 1)).heap = ((am_fl T cA cI n9 k9 i9).heap.push (am_ic cI k9)).setIfInBounds T.heap.size (am_oc cA n9 T.heap.size (i9 + 1)) := rfl
    have hz : ((am_fl T cA cI n9 k9 i9).heap.push (am_ic cI k9)).size = T.heap.size + 1 + i9 + 1 := by rw [Array.size_push, h1]
    refine ⟨?_, ?_, fun z hz9 => ?_, fun q hq => ?_, ?_⟩
    · rw [hh, Array.size_setIfInBounds, hz]; omega
    · rw [hh, Array.getElem?_setIfInBounds, if_pos rfl, if_pos (by rw [hz]; omega)]
    · rw [hh, Array.getElem?_setIfInBounds, if_neg (by omega), Array.getElem?_push, if_neg (by rw [h1]; omega)]
      exact h3 z hz9
    · rw [hh, Array.getElem?_setIfInBounds, if_neg (by omega), Array.getElem?_push]
      by_cases hw : T.heap.size + 1 + q = (am_fl T cA cI n9 k9 i9).heap.size
      · rw [if_pos hw]
      · rw [if_neg hw]
        exact h4 q (by omega)
    · show (am_fl T cA cI n9 k9 i9).slotsUsed + (am_ic cI k9).slots.size = _
      unfold am_ic
      rw [h5, Array.size_replicate, Nat.succ_mul]; omega
end MN
section MN2
variable {E : CtlPost} {e : Env} {d : Bool} {acts : List Action}
theorem am_fill {T : State} {cA cI cE : ClassId} {n9 k9 : Nat} {x9 : Int32} {kA kI : Class} {Q9 : PUnit → Pre} (hkA : T.vm.classes[cA]? = some kA) (hkindA : kA.kind = .array cI (.array .int)) (hkI : T.vm.classes[cI]? = some kI) (hkindI : kI.kind = .array cE .int) (hx : ¬ x9 < 0) (hxk : x9.toNatClampNeg = k9) (hl : ¬ k9 > e.platform.arrayLengthLimit) (hb : ¬ k9 * 4 > e.platform.maxHeapBytes)
    (hc : T.heap.size + 1 + n9 ≤ e.platform.maxCells) (hs : T.slotsUsed + n9 + n9 * k9 ≤ e.platform.maxSlots)
    (hQ : ∀ d8 acts8, Q9 PUnit.unit d8 acts8 (am_fl T cA cI n9 k9 n9)) :
    wp (forIn (List.range' 0 n9) PUnit.unit (fun i9 r9 => do
        let y9 ← Op.multianewarray.make cI [x9]
        writeLoc T.heap.size i9 (.ref y9)
        Pure.pure (ForInStep.yield PUnit.unit))) Q9 E e d acts (am_fl T cA cI n9 k9 0) := by
  refine wp_forIn_inv (fun r8 S8 => ∃ i8, i8 ≤ n9 ∧ r8 = List.range' i8 (n9 - i8) ∧ S8 = am_fl T cA cI n9 k9 i8) _ _ ⟨0, Nat.zero_le _, rfl, rfl⟩ (fun z8 r8 S8 d8 a8 Q8 h8 hq => ?_) (fun S8 d8 a8 h8 => ?_)
  · obtain ⟨i8, hi, hr, rfl⟩ := h8
    have hlt : i8 < n9 := by
      rcases Nat.lt_or_ge i8 n9 with h | h
      · exact h
      · rw [Nat.sub_eq_zero_of_le h] at hr
        exact absurd hr (by simp)
    rw [show n9 - i8 = (n9 - (i8 + 1)) + 1 by omega, List.range'_succ] at hr
    obtain ⟨hz, hr⟩ := List.cons.inj hr
    subst hz
    obtain ⟨f1, f2, f3, f4, f5⟩ := am_fl_heap T cA cI n9 k9 z8
    have hm : z8 * k9 + k9 ≤ n9 * k9 := by
      have := Nat.mul_le_mul_right k9 (show z8 + 1 ≤ n9 from hlt)
      rwa [Nat.succ_mul] at this
    simp only [Op.multianewarray.make, wp_bind', W.ite, hx, if_false, wp_pure', W.theClass, am_fl_vm, hkI, Option.some.injEq, exists_eq_left', hkindI]
    refine am_newArr (s := am_fl T cA cI n9 k9 z8) (comp := cE) (ty9 := .int) (by rw [am_fl_vm]; exact hkI) hkindI (by rw [hxk]; exact hl) (by rw [hxk]; exact hb) rfl (by rw [f1]; omega) (by rw [f5, hxk]; omega) (fun d7 a7 => ?_)
    rw [hxk]
    refine ⟨am_oc cA n9 T.heap.size z8, ?_, by unfold am_oc; simp, ?_, ?_, ?_⟩
    · show ((am_fl T cA cI n9 k9 z8).heap.push _)[T.heap.size]? = _
      rw [Array.getElem?_push, if_neg (by rw [f1]; omega)]
      exact f2
    · unfold am_oc
      rw [Array.size_ofFn]
      exact hlt
    · have hv : ((am_fl T cA cI n9 k9 z8).pushCell { cls := cI, slots := Array.replicate k9 (defaultValue .int), vm := .none }).vm = T.vm := am_fl_vm ..
      simp [State.fitsSlot, State.slotType?, State.vm_pushCell, am_fl_vm, am_oc, hkA, hkindA, fits]
    · have e9 : ((am_fl T cA cI n9 k9 z8).pushCell { cls := cI, slots := Array.replicate k9 (defaultValue .int), vm := .none }).setCell T.heap.size ((am_oc cA n9 T.heap.size z8).setSlot z8 (.ref (am_fl T cA cI n9 k9 z8).heap.size)) = am_fl T cA cI n9 k9 (z8 + 1) := by
        rw [f1, am_oc_succ cA n9 T.heap.size z8 hlt]
        rfl
      rw [e9]
      exact hq _ _ _ ⟨z8 + 1, hlt, hr, rfl⟩
  · obtain ⟨i8, hi, hr, rfl⟩ := h8
    have : i8 = n9 := by
      have h1 := congrArg List.length hr
      rw [List.length_range'] at h1
      simp at h1
      omega
    subst this
    exact hQ _ _
theorem am_mna_wp {T : State} {g9 : JFrame} {Q : Unit → Pre} {ix9 : Nat} {cA cI cE : ClassId} {x9 y9 : Int32} {kA kI : Class} {rest : List Value} (htop : T.topJava?.isSome) (hr : T.vm.classReady g9.method.cls ix9 cA) (hkA : T.vm.classes[cA]? = some kA) (hkindA : kA.kind = .array cI (.array .int)) (hkI : T.vm.classes[cI]? = some kI) (hkindI : kI.kind = .array cE .int) (hst : g9.stack = .int x9 :: .int y9 :: rest) (hx : ¬ x9 < 0) (hy : ¬ y9 < 0)
    (hl : ¬ x9.toNatClampNeg > e.platform.arrayLengthLimit) (hb : ¬ x9.toNatClampNeg * 4 > e.platform.maxHeapBytes) (hl2 : ¬ y9.toNatClampNeg > e.platform.arrayLengthLimit) (hb2 : ¬ y9.toNatClampNeg * 4 > e.platform.maxHeapBytes)
    (hc : T.heap.size + 1 + y9.toNatClampNeg ≤ e.platform.maxCells) (hs : T.slotsUsed + y9.toNatClampNeg + y9.toNatClampNeg * x9.toNatClampNeg ≤ e.platform.maxSlots)
    (hQ : ∀ d8 acts8, Q () d8 acts8 ((am_fl T cA cI y9.toNatClampNeg x9.toNatClampNeg y9.toNatClampNeg).setTop { g9 with stack := .ref T.heap.size :: rest })) :
    wp (Op.multianewarray.sem ix9 2) Q E e d acts (T.setTop g9) := by
  simp only [Op.multianewarray.sem, wp_bind', W.resolveClassAt_ready (s := T.setTop g9) (State.method?_setTop g9 htop) hr]
  refine (popN_top (args := [.int y9, .int x9]) (rest := rest) htop hst).mpr ?_
  simp only [List.mapM_cons, List.mapM_nil, wp_bind', wp_pure', pure_bind, bind_pure_comp, map_pure]
  rw [Op.multianewarray.make]
  simp only [wp_bind', W.ite, hy, if_false, wp_pure', W.theClass, State.vm_setTop, hkA, Option.some.injEq, exists_eq_left', hkindA]
  refine am_newArr (s := T.setTop { g9 with stack := rest }) (comp := cI) (ty9 := .array .int) hkA hkindA hl2 hb2 rfl (by show T.heap.size < _; omega) (by show T.slotsUsed + _ ≤ _; omega) (fun d7 a7 => ?_)
  have hfnd : List.find? (fun z => decide (z < 0)) [x9] = none := by simp [hx]
  simp only [hfnd, wp_pure', W.ite]
  rw [am_oc_zero cA y9.toNatClampNeg T.heap.size]
  have key : ∀ d6 a6 (Q6 : PUnit → Pre), (∀ d8 acts8, Q6 PUnit.unit d8 acts8 ((am_fl T cA cI y9.toNatClampNeg x9.toNatClampNeg y9.toNatClampNeg).setTop { g9 with stack := rest })) → wp (forIn (List.range' 0 y9.toNatClampNeg) PUnit.unit (fun i9 r9 => do
        let y9 ← Op.multianewarray.make cI [x9]
        writeLoc T.heap.size i9 (.ref y9)
        Pure.pure (ForInStep.yield PUnit.unit))) Q6 E e d6 a6 ((T.setTop { g9 with stack := rest }).pushCell (am_oc cA y9.toNatClampNeg T.heap.size 0)) := fun d6 a6 Q6 hQ6 =>
    am_fill (T := T.setTop { g9 with stack := rest }) (cE := cE) hkA hkindA hkI hkindI hx rfl hl hb hc hs (fun d8 a8 => by rw [am_fl_top]; exact hQ6 d8 a8)
  have fin : ∀ (d6 : Bool) (a6 : List Action), wp (forIn (List.range' 0 y9.toNatClampNeg) PUnit.unit (fun i9 r9 => do
        let y9 ← Op.multianewarray.make cI [x9]
        writeLoc T.heap.size i9 (.ref y9)
        Pure.pure (ForInStep.yield PUnit.unit))) (fun _ => wp (pushRef T.heap.size) Q E e) E e d6 a6 ((T.setTop { g9 with stack := rest }).pushCell (am_oc cA y9.toNatClampNeg T.heap.size 0)) := fun d6 a6 => key d6 a6 _ (fun d8 a8 => ⟨_, State.topJava?_setTop' _ (show (am_fl T cA cI y9.toNatClampNeg x9.toNatClampNeg y9.toNatClampNeg).topJava?.isSome by rw [am_fl_tj]; exact htop), by rw [State.setTop_setTop]; exact hQ _ _⟩)
  rw [ite_self, Std.Legacy.Range.forIn_eq_forIn_range']
  have hz : (Std.Legacy.Range.mk 0 y9.toNatClampNeg 1 Nat.one_pos).size = y9.toNatClampNeg := by simp [Std.Legacy.Range.size]
  simp only [wp_bind', wp_pure', W.mark, hz]
  exact fin _ _
theorem am_mna_cold {T : State} {g9 : JFrame} {Q : Unit → Pre} {ix9 cA : Nat} {vm9 : Vm} (hs : T.topJava?.isSome) (hg : (Jvm.resolveClass g9.method.cls ix9).Gives e.toSetting T.vm (.ok cA) vm9) (hr : vm9.classReady g9.method.cls ix9 cA) (hsz : vm9.classes.size ≤ T.vm.classes.size := by no_record) :
    wp (Op.multianewarray.sem ix9 2) Q E e d acts (T.setTop g9) ↔ wp (Op.multianewarray.sem ix9 2) Q E e d acts ((T.setVm vm9).setTop g9) := by
  simp only [Op.multianewarray.sem, wp_bind']
  exact W.resolveClassAt_transfer (s := T.setTop g9) (State.method?_setTop g9 hs) hg hr
end MN2
section MN3
variable {p : Program} {l : Launch} {e : Env} {R : Room} {s : State} {m : MethodId} {args : Array Value} {below : List Frame} {meth : Method} {c : Code} {T : State} {locs : List Loc} {cells slots : Nat}
theorem am_fl_stand (X : Stand p l e R s m args below meth c T locs cells slots) (cA cI : ClassId) (n9 k9 : Nat) : ∀ i9, i9 ≤ n9 → Stand p l e R s m args below meth c (am_fl T cA cI n9 k9 i9) locs (cells + 1 + i9) (slots + n9 + i9 * k9)
  | 0, _ => by
    have h := X.pushed (am_oc cA n9 T.heap.size 0)
    have e9 : (am_oc cA n9 T.heap.size 0).slots.size = n9 := by unfold am_oc; rw [Array.size_ofFn]
    rw [e9] at h
    rw [Nat.zero_mul]
    exact h
  | i9 + 1, hi => by
    have h := (am_fl_stand X cA cI n9 k9 i9 (by omega)).pushed (am_ic cI k9)
    have e9 : (am_ic cI k9).slots.size = k9 := by unfold am_ic; rw [Array.size_replicate]
    rw [e9] at h
    obtain ⟨f1, f2, -, -, -⟩ := am_fl_heap T cA cI n9 k9 i9
    have hc : ((am_fl T cA cI n9 k9 i9).pushCell (am_ic cI k9)).heap[T.heap.size]? = some (am_oc cA n9 T.heap.size i9) := by
      show ((am_fl T cA cI n9 k9 i9).heap.push _)[T.heap.size]? = _
      rw [Array.getElem?_push, if_neg (by rw [f1]; omega)]
      exact f2
    have h2 := h.stored hc i9 (.ref (T.heap.size + 1 + i9))
    have h3 := h2.dropFresh (fun x hx => by
      cases hx with
      | head => exact X.heapGrown
      | tail _ hx => cases hx)
    rw [am_oc_succ cA n9 T.heap.size i9 (by omega)] at h3
    rw [Nat.succ_mul, ← Nat.add_assoc (slots + n9), ← Nat.add_assoc (cells + 1)]
    exact h3
theorem am_mnaF (X : Stand p l e R s m args below meth c T locs cells slots) (hexec : p.tables.exec = Jvm.exec) {own : String} {ix9 : Nat} (hown : s.vm.findClass own = some m.cls) (hclink : (Cond.classLink own ix9 "[[I").before args s = true) {cA cI cE : ClassId} {kA kI : Class} (hfA : s.vm.findClass "[[I" = some cA) (hkA : s.vm.classes[cA]? = some kA) (hkindA : kA.kind = .array cI (.array .int)) (hkI : s.vm.classes[cI]? = some kI) (hkindI : kI.kind = .array cE .int)
    {g9 : JFrame} (hg : g9.method = m) (hdg : decode c.code g9.pc = .ok (.multianewarray ix9 2, 4)) {x9 y9 : Int32} {rest : List Value} (hst : g9.stack = .int x9 :: .int y9 :: rest) (hx : ¬ x9 < 0) (hy : ¬ y9 < 0) (hx2 : x9.toNatClampNeg ≤ 4096) (hy2 : y9.toNatClampNeg ≤ 4096) (hcells : cells + (1 + y9.toNatClampNeg) ≤ R.cells) (hslots : slots + (y9.toNatClampNeg + y9.toNatClampNeg * x9.toNatClampNeg) ≤ R.slots) :
    ∃ vm9 : Vm, Stand p l e R s m args below meth c (am_fl (T.setVm vm9) cA cI y9.toNatClampNeg x9.toNatClampNeg y9.toNatClampNeg) locs (cells + 1 + y9.toNatClampNeg) (slots + y9.toNatClampNeg + y9.toNatClampNeg * x9.toNatClampNeg) ∧
      ∀ target, Steps p.tables e below ((am_fl (T.setVm vm9) cA cI y9.toNatClampNeg x9.toNatClampNeg y9.toNatClampNeg).setTop { g9 with pc := g9.pc + 4, stack := .ref T.heap.size :: rest }) target → Steps p.tables e below (T.setTop g9) target := by
  subst hg
  have hpl : e.platform.magicAccessors = ({} : Platform).magicAccessors := by rw [X.admits.platform]
  obtain ⟨cc, hfcc, hcl⟩ := Cond.classLink_spec hown hclink e.platform hpl
  cases hfA.symm.trans hfcc
  obtain ⟨hg₁, hwarm₁, hready₁⟩ := State.classEntry (e := e) X.warmed hcl
  generalize T.vm.noted g9.method.cls ix9 (.cls cA) = vm₁ at hg₁ hwarm₁ hready₁
  have hal : s.vm.Alike vm₁ := hwarm₁.alike
  obtain ⟨kA₁, hkA₁, heA⟩ := hal.2.2 _ _ hkA
  obtain ⟨kI₁, hkI₁, heI⟩ := hal.2.2 _ _ hkI
  have hkindA₁ : kA₁.kind = .array cI (.array .int) := by rw [heA]; exact hkindA
  have hkindI₁ : kI₁.kind = .array cE .int := by rw [heI]; exact hkindI
  have l1 := Launch.admits_arrayLengthLimit X.admits
  have l2 := Launch.admits_maxHeapBytes X.admits
  obtain ⟨hr1, hr2⟩ := X.roomAbove hcells hslots
  refine ⟨vm₁, am_fl_stand (X.noted hwarm₁) cA cI _ _ _ (Nat.le_refl _), fun target hrest => ?_⟩
  jvm_step X.here [hexec, hdg, am_mna_cold (e := e) (T := T) (g9 := g9) X.here.top hg₁ hready₁]
  refine am_mna_wp (T := T.setVm vm₁) (cA := cA) (cI := cI) (cE := cE) X.here.top hready₁ hkA₁ hkindA₁ hkI₁ hkindI₁ hst hx hy (by rw [l1]; omega) (by rw [l2]; omega) (by rw [l1]; omega) (by rw [l2]; omega) (by show T.heap.size + 1 + _ ≤ _; omega) (by show T.slotsUsed + _ + _ ≤ _; omega) (fun d8 a8 => ?_)
  intro a7
  rw [afterInstr_ok]
  exact hrest
end MN3
end
section
/-! ===== int[][] ===== -/
theorem am_outer {c9 : ClassId} {N9 h9 : Nat} {f : Nat → Option Nat} (hf : ∀ i, i < N9 → f i = some (h9 + 1 + i)) : am_oc c9 N9 h9 N9 = arrV c9 N9 (fun k => va_rf (f k)) := by
  unfold am_oc arrV
  congr 2
  funext i9
  rw [if_pos i9.isLt]
  show _ = va_rf (f i9.val)
  rw [hf _ i9.isLt]
  rfl
theorem am_sum_rep (n9 k9 : Nat) : (List.replicate n9 k9).sum = n9 * k9 := by
  induction n9 with
  | zero => rw [Nat.zero_mul]; rfl
  | succ n ih => rw [List.replicate_succ, List.sum_cons, ih, Nat.succ_mul]; omega
theorem am_grow2_at {M : am_M} {N9 K9 k9 : Nat} {t9 : Nat × Nat} (h : (M.1 ++ (105, N9) :: List.replicate N9 (100, K9))[k9]? = some t9) : (k9 < M.1.length ∧ M.1[k9]? = some t9) ∨ (k9 = M.1.length ∧ t9 = (105, N9)) ∨ (M.1.length < k9 ∧ k9 < M.1.length + 1 + N9 ∧ t9 = (100, K9)) := by
  by_cases hl : k9 < M.1.length
  · rw [List.getElem?_append_left hl] at h
    exact Or.inl ⟨hl, h⟩
  · rw [List.getElem?_append_right (by omega)] at h
    cases hz : k9 - M.1.length with
    | zero =>
      rw [hz] at h
      cases h
      exact Or.inr (Or.inl ⟨by omega, rfl⟩)
    | succ n8 =>
      rw [hz, List.getElem?_cons_succ, List.getElem?_replicate] at h
      split at h
      · cases h
        exact Or.inr (Or.inr ⟨by omega, by omega, rfl⟩)
      · cases h
section SN5
variable {p : Program} {l : Launch} {e : Env} {R : Room} {s : State} {m : MethodId} {args : Array Value} {below : List Frame} {meth : Method} {c : Code} {Q : State → Prop}
variable {b : Nat} {ad : Nat → Nat} {D : va_G} {cy : Nat → ClassId} {X : Nat × (Nat → Int32)} {mid cells slots j : Nat} {ls st : List Value} {M : am_M} {q : Nat × Nat × Nat × Nat} {x y : Int32} {lx ly : Int64} {a ix p0 r1 r2 r3 : Nat}

theorem sd_mna {n9 k9 : Nat} (C : am_Ctx b ad D cy X mid p s m args meth c) (hc : am_cd mid j = some (.multianewarray n9 k9, q)) (h7 : 0 ≤ y ∧ y.toNatClampNeg ≤ 4096 ∧ 0 ≤ x ∧ x.toNatClampNeg ≤ 4096) (hN : ((M.1 ++ (105, y.toNatClampNeg) :: List.replicate y.toNatClampNeg (100, x.toNatClampNeg), M.2.1 ++ ((List.range y.toNatClampNeg).map (fun i => some (M.1.length + 1 + i))) :: List.replicate y.toNatClampNeg [], (fun q i => if M.1.length ≤ q then 0 else M.2.2.1 q i), (fun q i => if M.1.length ≤ q then 0 else M.2.2.2 q i)) : am_M).1.length ≤ 1000000) (hcap : cells + (((M.1 ++ (105, y.toNatClampNeg) :: List.replicate y.toNatClampNeg (100, x.toNatClampNeg), M.2.1 ++ ((List.range y.toNatClampNeg).map (fun i => some (M.1.length + 1 + i))) :: List.replicate y.toNatClampNeg [], (fun q i => if M.1.length ≤ q then 0 else M.2.2.1 q i), (fun q i => if M.1.length ≤ q then 0 else M.2.2.2 q i)) : am_M).1.length - M.1.length) ≤ R.cells ∧ slots + (am_sz (M.1 ++ (105, y.toNatClampNeg) :: List.replicate y.toNatClampNeg (100, x.toNatClampNeg), M.2.1 ++ ((List.range y.toNatClampNeg).map (fun i => some (M.1.length + 1 + i))) :: List.replicate y.toNatClampNeg [], (fun q i => if M.1.length ≤ q then 0 else M.2.2.1 q i), (fun q i => if M.1.length ≤ q then 0 else M.2.2.2 q i)) - am_sz M) ≤ R.slots)
    (kk : ∀ c9 s9, c9 = cells + (((M.1 ++ (105, y.toNatClampNeg) :: List.replicate y.toNatClampNeg (100, x.toNatClampNeg), M.2.1 ++ ((List.range y.toNatClampNeg).map (fun i => some (M.1.length + 1 + i))) :: List.replicate y.toNatClampNeg [], (fun q i => if M.1.length ≤ q then 0 else M.2.2.1 q i), (fun q i => if M.1.length ≤ q then 0 else M.2.2.2 q i)) : am_M).1.length - M.1.length) → s9 = slots + (am_sz (M.1 ++ (105, y.toNatClampNeg) :: List.replicate y.toNatClampNeg (100, x.toNatClampNeg), M.2.1 ++ ((List.range y.toNatClampNeg).map (fun i => some (M.1.length + 1 + i))) :: List.replicate y.toNatClampNeg [], (fun q i => if M.1.length ≤ q then 0 else M.2.2.1 q i), (fun q i => if M.1.length ≤ q then 0 else M.2.2.2 q i)) - am_sz M) → am_G p l e R s m args below meth c Q b ad D cy mid c9 s9 (j + 1) ls (.ref M.1.length :: st) (M.1 ++ (105, y.toNatClampNeg) :: List.replicate y.toNatClampNeg (100, x.toNatClampNeg), M.2.1 ++ ((List.range y.toNatClampNeg).map (fun i => some (M.1.length + 1 + i))) :: List.replicate y.toNatClampNeg [], (fun q i => if M.1.length ≤ q then 0 else M.2.2.1 q i), (fun q i => if M.1.length ≤ q then 0 else M.2.2.2 q i))) : am_G p l e R s m args below meth c Q b ad D cy mid cells slots j ls (.int x :: .int y :: st) M := by
  intro H locs cls hl hA
  refine am_size C.2.2.2.2.2.2.2.2.2.1 hA (fun hsz => ?_)
  obtain ⟨hd, hck⟩ := am_fact (am_lt C) hc
  simp only [am_ck, Bool.and_eq_true, beq_iff_eq] at hck
  obtain ⟨-, hlk, h2⟩ := hck
  subst h2
  have hlink := C.2.2.2.2.1 _ (am_lk_mem hlk)
  have e1 : "[" ++ (FieldType.array .int).toString = "[[I" := by decide
  have e2 : (FieldType.array .int).toString = "[" ++ (FieldType.int).toString := by decide
  have hlink2 : (Cond.classLink (am_nm (am_k mid)) n9 ("[" ++ (FieldType.array .int).toString)).before args s = true := by rw [e1]; exact hlink
  have hK := C.2.2.2.2.2.2.2.2.1.1
  have harr := C.2.2.2.2.1 _ (am_wh_in (i9 := 13) rfl rfl)
  have hlen : ((M.1 ++ (105, y.toNatClampNeg) :: List.replicate y.toNatClampNeg (100, x.toNatClampNeg), M.2.1 ++ ((List.range y.toNatClampNeg).map (fun i => some (M.1.length + 1 + i))) :: List.replicate y.toNatClampNeg [], (fun q i => if M.1.length ≤ q then 0 else M.2.2.1 q i), (fun q i => if M.1.length ≤ q then 0 else M.2.2.2 q i)) : am_M).1.length = M.1.length + 1 + y.toNatClampNeg := by
    show (M.1 ++ (105, y.toNatClampNeg) :: List.replicate y.toNatClampNeg (100, x.toNatClampNeg)).length = _
    rw [List.length_append, List.length_cons, List.length_replicate]
    omega
  have hszz : am_sz (M.1 ++ (105, y.toNatClampNeg) :: List.replicate y.toNatClampNeg (100, x.toNatClampNeg), M.2.1 ++ ((List.range y.toNatClampNeg).map (fun i => some (M.1.length + 1 + i))) :: List.replicate y.toNatClampNeg [], (fun q i => if M.1.length ≤ q then 0 else M.2.2.1 q i), (fun q i => if M.1.length ≤ q then 0 else M.2.2.2 q i)) = am_sz M + y.toNatClampNeg + y.toNatClampNeg * x.toNatClampNeg := by
    show ((M.1 ++ (105, y.toNatClampNeg) :: List.replicate y.toNatClampNeg (100, x.toNatClampNeg)).map Prod.snd).sum = _
    rw [List.map_append, List.sum_append, List.map_cons, List.sum_cons, List.map_replicate, am_sum_rep]
    show am_sz M + (y.toNatClampNeg + y.toNatClampNeg * x.toNatClampNeg) = _
    omega
  rw [hlen, hszz] at hcap
  intro T hT Y
  obtain ⟨kA, hkA, hkindA⟩ := C.2.2.2.2.2.2.2.2.1.2.2.2.1
  have hfA : s.vm.findClass "[[I" = some (cy 105) := by rw [← e1]; exact (hK.2 5 _ rfl).2
  obtain ⟨c8, kI, cE, hfI, hkI, hkindI⟩ := Cond.arrayClass_spec harr
  have hcI : c8 = cy 100 := Option.some.inj (hfI.symm.trans (hK.2 0 _ rfl).2)
  subst hcI
  obtain ⟨vm1, X', step⟩ := am_mnaF Y C.1 C.2.2.2.1 hlink hfA hkA hkindA hkI hkindI (g9 := F0 m (am_pc mid j) cls (.int x :: .int y :: st.map (am_cv b ad))) rfl (by rw [C.2.1]; exact hd) rfl (Int32.not_lt.mpr h7.2.2.1) (Int32.not_lt.mpr h7.1) h7.2.2.2 h7.2.1 (by omega) (by omega)
  have hTh : (T.setVm vm1).heap = H := hT
  obtain ⟨f1, f2, f3, f4, -⟩ := am_fl_heap (T.setVm vm1) (cy 105) (cy 100) y.toNatClampNeg x.toNatClampNeg y.toNatClampNeg
  simp only [hTh] at f1 f2 f3 f4
  rw [hT] at step
  generalize am_fl (T.setVm vm1) (cy 105) (cy 100) y.toNatClampNeg x.toNatClampNeg y.toNatClampNeg = F9 at X' step f1 f2 f3 f4
  have hAt : am_At b ad D cy (M.1 ++ (105, y.toNatClampNeg) :: List.replicate y.toNatClampNeg (100, x.toNatClampNeg), M.2.1 ++ ((List.range y.toNatClampNeg).map (fun i => some (M.1.length + 1 + i))) :: List.replicate y.toNatClampNeg [], (fun q i => if M.1.length ≤ q then 0 else M.2.2.1 q i), (fun q i => if M.1.length ≤ q then 0 else M.2.2.2 q i)) s (cells + 1 + y.toNatClampNeg) F9.heap locs := by
    refine ⟨fun k8 q8 hk8 => ?_, ?_, ?_, ?_⟩
    · have hk9 : k8 < ((M.1 ++ (105, y.toNatClampNeg) :: List.replicate y.toNatClampNeg (100, x.toNatClampNeg), M.2.1 ++ ((List.range y.toNatClampNeg).map (fun i => some (M.1.length + 1 + i))) :: List.replicate y.toNatClampNeg [], (fun q i => if M.1.length ≤ q then 0 else M.2.2.1 q i), (fun q i => if M.1.length ≤ q then 0 else M.2.2.2 q i)) : am_M).1.length := by
        have := (List.getElem?_eq_some_iff.mp hk8).1
        rwa [am_ws_len] at this
      rw [am_ws_get hk9] at hk8
      cases hk8
      obtain ⟨t9, ht9⟩ : ∃ t9, ((M.1 ++ (105, y.toNatClampNeg) :: List.replicate y.toNatClampNeg (100, x.toNatClampNeg), M.2.1 ++ ((List.range y.toNatClampNeg).map (fun i => some (M.1.length + 1 + i))) :: List.replicate y.toNatClampNeg [], (fun q i => if M.1.length ≤ q then 0 else M.2.2.1 q i), (fun q i => if M.1.length ≤ q then 0 else M.2.2.2 q i)) : am_M).1[k8]? = some t9 := ⟨_, List.getElem?_eq_getElem hk9⟩
      rcases am_grow2_at ht9 with ⟨z1, z2⟩ | ⟨z1, z2⟩ | ⟨z1, z2, z3⟩
      · have hce : am_cell cy b ad (M.1 ++ (105, y.toNatClampNeg) :: List.replicate y.toNatClampNeg (100, x.toNatClampNeg), M.2.1 ++ ((List.range y.toNatClampNeg).map (fun i => some (M.1.length + 1 + i))) :: List.replicate y.toNatClampNeg [], (fun q i => if M.1.length ≤ q then 0 else M.2.2.1 q i), (fun q i => if M.1.length ≤ q then 0 else M.2.2.2 q i)) k8 = am_cell cy b ad M k8 := by
          refine am_cell_congr (by rw [ht9, z2]) ?_ ?_ (fun i9 => ?_)
          · funext i9
            exact if_neg (by omega)
          · funext i9
            exact if_neg (by omega)
          · unfold am_rd
            show (((M.2.1 ++ _)[k8]?.getD [])[i9]?).getD none = _
            rw [List.getElem?_append_left (by rw [hA.2.2.1.1]; exact z1)]
        rw [hce]
        have h1 := hA.1 k8 _ (am_ws_get (cy := cy) (b := b) (ad := ad) z1)
        exact h1.kept (f3 _ (by rw [hsz]; show b + k8 < _; omega))
      · subst z1
        rw [am_cell_ref (M := (M.1 ++ (105, y.toNatClampNeg) :: List.replicate y.toNatClampNeg (100, x.toNatClampNeg), M.2.1 ++ ((List.range y.toNatClampNeg).map (fun i => some (M.1.length + 1 + i))) :: List.replicate y.toNatClampNeg [], (fun q i => if M.1.length ≤ q then 0 else M.2.2.1 q i), (fun q i => if M.1.length ≤ q then 0 else M.2.2.2 q i))) (by rw [ht9, z2]) (Or.inr rfl)]
        show F9.heap[b + M.1.length]? = some (vp_cell _ _)
        rw [vp_cell_q, ← am_outer (h9 := H.size) (fun i9 hi9 => ?_), ← hsz]
        · exact f2
        · show (am_rd (M.2.1 ++ _) M.1.length i9).map (am_ad b ad) = _
          unfold am_rd
          rw [List.getElem?_append_right (by rw [hA.2.2.1.1]; exact Nat.le_refl _), hA.2.2.1.1, Nat.sub_self, List.getElem?_cons_zero]
          simp only [Option.getD_some]
          rw [List.getElem?_map, List.getElem?_range hi9]
          show some (am_ad b ad (M.1.length + 1 + i9)) = _
          rw [am_ad_lt (by rw [hlen] at hN; omega), hsz]
          congr 1
          omega
      · rw [am_cell_int (M := (M.1 ++ (105, y.toNatClampNeg) :: List.replicate y.toNatClampNeg (100, x.toNatClampNeg), M.2.1 ++ ((List.range y.toNatClampNeg).map (fun i => some (M.1.length + 1 + i))) :: List.replicate y.toNatClampNeg [], (fun q i => if M.1.length ≤ q then 0 else M.2.2.1 q i), (fun q i => if M.1.length ≤ q then 0 else M.2.2.2 q i))) (by rw [ht9, z3]) (Or.inl rfl)]
        show F9.heap[b + k8]? = some (vp_cell _ _)
        have h1 := f4 (k8 - M.1.length - 1) (by omega)
        rw [show H.size + 1 + (k8 - M.1.length - 1) = b + k8 by omega] at h1
        rw [h1, vp_cell_i]
        unfold am_ic
        rw [arrV_new]
        congr 2
        funext i9
        show Value.int 0 = Value.int (if M.1.length ≤ k8 then 0 else M.2.2.1 k8 i9)
        rw [if_pos (by omega)]
    · rw [hlen]
      have := hA.2.1
      omega
    · refine ⟨?_, hN, fun a9 k8 n8 h1 h2 => ?_, fun a9 k8 n8 h1 h2 => ?_⟩
      · rw [hlen]
        show (M.2.1 ++ _ :: List.replicate y.toNatClampNeg []).length = _
        rw [List.length_append, List.length_cons, List.length_replicate, hA.2.2.1.1]
        omega
      · rcases am_grow2_at h1 with ⟨z1, z2⟩ | ⟨z1, z2⟩ | ⟨z1, z2, z3⟩
        · exact hA.2.2.1.2.2.1 a9 k8 n8 z2 h2
        · cases z2; omega
        · cases z3; omega
      · rcases am_grow2_at h1 with ⟨z1, z2⟩ | ⟨z1, z2⟩ | ⟨z1, z2, z3⟩
        · exact hA.2.2.1.2.2.2 a9 k8 n8 z2 h2
        · cases z2; omega
        · cases z3; omega
    · exact ⟨Nat.le_trans hA.2.2.2.1 (by omega), fun z9 h1 h2 => (f3 z9 (Nat.lt_of_lt_of_le h1 hA.2.2.2.1)).trans (hA.2.2.2.2.1 z9 h1 h2), hA.2.2.2.2.2⟩
  have h := kk (cells + 1 + y.toNatClampNeg) (slots + y.toNatClampNeg + y.toNatClampNeg * x.toNatClampNeg) (by rw [hlen]; omega) (by rw [hszz]; omega) F9.heap locs cls hl hAt
  rw [am_next (am_lt C) hc rfl, List.map_cons, show am_cv b ad (.ref M.1.length) = .ref (b + M.1.length) from congrArg Value.ref (am_ad_lt (by rw [hlen] at hN; omega)), ← hsz] at h
  obtain ⟨t9, a1, b1⟩ := h F9 rfl X'
  exact ⟨t9, step t9 a1, b1⟩
theorem am_str_len : ∀ i9, i9 < 10 → am_slen.getD i9 0 = (am_sbT.getD i9 []).length := by decide
theorem am_str_small : ∀ i9, i9 < 10 → am_slen.getD i9 0 < 100 := by decide
theorem am_str_chr : ∀ i9, i9 < 10 → ∀ k9, k9 < am_slen.getD i9 0 → ((((am_sbT.getD i9 []).getD k9 0) &&& 255).toUInt32 % 65536).toInt32 = am_chr i9 k9 ∧ narrow .char (.int (am_chr i9 k9)) = .int (am_chr i9 k9) := by decide +kernel
theorem am_ix_iff {x9 : Int32} {n9 : Nat} : am_ix x9 n9 = true ↔ 0 ≤ x9 ∧ x9.toNatClampNeg < n9 := by
  unfold am_ix
  rw [Bool.and_eq_true, decide_eq_true_eq, decide_eq_true_eq]
theorem sd_slen (C : am_Ctx b ad D cy X mid p s m args meth c) (hc : am_cd mid j = some (.invokevirtual ix, p0, 1006, r2, r3)) (hw : 1000000 ≤ a ∧ a < 1000010 ∧ am_low st = true) (hR : 8 ≤ R.frames ∧ 300 ≤ R.locals) (hcap : cells ≤ R.cells ∧ slots ≤ R.slots) (kk : am_G p l e R s m args below meth c Q b ad D cy mid cells slots (j + 1) ls (.int (Int32.ofNat (am_sbT.getD (a - 1000000) []).length) :: st) M) : am_G p l e R s m args below meth c Q b ad D cy mid cells slots j ls (.ref a :: st) M := by
  intro H locs cls hl hA
  obtain ⟨hd, hck⟩ := am_fact (am_lt C) hc
  have h := kk H locs cls hl hA
  rw [am_next (am_lt C) hc rfl] at h
  simp only [am_ck, Bool.and_eq_true] at hck
  have hlink := am_call_lk hck.2.1 (by omega)
  have hlow := lv_room (m := m) (pc := am_pc mid j) (ls := cls) (rest := (.ref a :: st).map (am_cv b ad)) (am_low_of (b := b) (ad := ad) hw.2.2)
  obtain ⟨i9, hi9, ha9⟩ : ∃ i9, i9 < 10 ∧ a = 1000000 + i9 := ⟨a - 1000000, by omega, by omega⟩
  subst ha9
  have hsub : 1000000 + i9 - 1000000 = i9 := by omega
  have had : am_cv b ad (.ref (1000000 + i9)) = .ref (ad i9) := congrArg Value.ref ((if_neg (by omega)).trans (congrArg ad hsub))
  rw [hsub] at h
  have hK := C.2.2.2.2.2.2.2.2.1
  have hbs := C.2.2.2.2.2.2.2.2.2.1
  obtain ⟨adV, hVS⟩ := hK.2.2.2.2.2.1
  have hcw := cwV (rm := { frames := 1, cells := 0, slots := 0, locals := 40 }) (R := R) 0 C.2.2.2.2.1 (am_goodIn (ws := wsV (am_nm (am_k mid)) ix "java/lang/String" ys_length (Cond.code ys_length prog_15_method_54_code 1 (some .int) :: am_big)) (fun w9 hw9 => by
    unfold wsV at hw9
    rcases List.mem_append.mp hw9 with h9 | h9
    · simp only [List.mem_cons, List.not_mem_nil, or_false] at h9
      rcases h9 with rfl | rfl | rfl | rfl
      · exact hlink
      · exact am_stw_in (i9 := 19) rfl rfl
      · exact am_stw_in (i9 := 20) rfl rfl
      · exact am_stw_in (i9 := 6) rfl rfl
    · rcases List.mem_cons.mp h9 with rfl | h8
      · exact am_in ys_length_c rfl
      · exact h8)) rfl rfl rfl (by decide +kernel) ⟨by show 1 + 1 ≤ _; omega, by show 8 + (1 + 11) + 40 ≤ _; omega⟩
  refine am_contK (va_runV (As := []) (rest := st.map (am_cv b ad)) ⟨C.1, C.2.1, C.2.2.1, C.2.2.2.1, C.2.2.2.2.1⟩ (cs_length (l := l) (D := D) (cy := cy) (X := X) hi9) hcw ⟨am_blindK, vk_recv hVS hi9 hA.2.2.2, am_preK (vs := [.ref (ad i9)]) hK hbs hA.2.2.2⟩ rfl rfl hl.1 (by show (Value.ref (1000000 + i9) :: st).map (am_cv b ad) = _; rw [List.map_cons, had]; rfl) hlow hd hcap) ?_
  rw [List.map_cons] at h
  have e9 : am_slen.getD i9 0 = (am_sbT.getD i9 []).length := am_str_len i9 hi9
  rw [e9]
  exact h
theorem sd_chat (C : am_Ctx b ad D cy X mid p s m args meth c) (hc : am_cd mid j = some (.invokevirtual ix, p0, 1007, r2, r3)) (hw : 1000000 ≤ a ∧ a < 1000010 ∧ am_low st = true ∧ am_ix x (am_sbT.getD (a - 1000000) []).length = true) (hR : 8 ≤ R.frames ∧ 300 ≤ R.locals) (hcap : cells ≤ R.cells ∧ slots ≤ R.slots) (kk : am_G p l e R s m args below meth c Q b ad D cy mid cells slots (j + 1) ls (.int (am_chr (a - 1000000) x.toNatClampNeg) :: st) M) : am_G p l e R s m args below meth c Q b ad D cy mid cells slots j ls (.int x :: .ref a :: st) M := by
  intro H locs cls hl hA
  obtain ⟨hd, hck⟩ := am_fact (am_lt C) hc
  have h := kk H locs cls hl hA
  rw [am_next (am_lt C) hc rfl] at h
  simp only [am_ck, Bool.and_eq_true] at hck
  have hlink := am_call_lk hck.2.1 (by omega)
  have hlow := lv_room (m := m) (pc := am_pc mid j) (ls := cls) (rest := (.int x :: .ref a :: st).map (am_cv b ad)) (am_low_of (b := b) (ad := ad) hw.2.2.1)
  obtain ⟨i9, hi9, ha9⟩ : ∃ i9, i9 < 10 ∧ a = 1000000 + i9 := ⟨a - 1000000, by omega, by omega⟩
  subst ha9
  have hsub : 1000000 + i9 - 1000000 = i9 := by omega
  have had : am_cv b ad (.ref (1000000 + i9)) = .ref (ad i9) := congrArg Value.ref ((if_neg (by omega)).trans (congrArg ad hsub))
  rw [hsub] at h hw
  have hK := C.2.2.2.2.2.2.2.2.1
  have hbs := C.2.2.2.2.2.2.2.2.2.1
  obtain ⟨adV, hVS⟩ := hK.2.2.2.2.2.1
  have hcw := cwV (rm := { frames := 3, cells := 0, slots := 0, locals := 120 }) (R := R) 1 C.2.2.2.2.1 (am_goodIn (ws := wsV (am_nm (am_k mid)) ix "java/lang/String" ys_charAt (Cond.code ys_charAt prog_15_method_56_code 2 (some .char) :: am_big)) (fun w9 hw9 => by
    unfold wsV at hw9
    rcases List.mem_append.mp hw9 with h9 | h9
    · simp only [List.mem_cons, List.not_mem_nil, or_false] at h9
      rcases h9 with rfl | rfl | rfl | rfl
      · exact hlink
      · exact am_stw_in (i9 := 21) rfl rfl
      · exact am_stw_in (i9 := 22) rfl rfl
      · exact am_stw_in (i9 := 6) rfl rfl
    · rcases List.mem_cons.mp h9 with rfl | h8
      · exact am_in ys_charAt_c rfl
      · exact h8)) rfl rfl rfl (by decide +kernel) ⟨by show 3 + 1 ≤ _; omega, by show 8 + (2 + 11) + 120 ≤ _; omega⟩
  obtain ⟨hx1, hx2⟩ := (am_ix_iff).mp hw.2.2.2
  have e9 : am_slen.getD i9 0 = (am_sbT.getD i9 []).length := am_str_len i9 hi9
  obtain ⟨c1, c2⟩ := am_str_chr i9 hi9 x.toNatClampNeg (by rw [e9]; exact hx2)
  have hlen9 := am_str_small i9 hi9
  have hx3 : x < Int32.ofNat (am_slen.getD i9 0) := by
    rw [Int32.lt_iff_toInt_lt, Int32.toInt_ofNat_of_lt (by omega), e9]
    have z9 : x.toNatClampNeg = x.toInt.toNat := rfl
    omega
  have hnn : ¬ x < 0 := Int32.not_lt.mpr hx1
  refine am_contK (va_runV (As := [.int x]) (rest := st.map (am_cv b ad)) ⟨C.1, C.2.1, C.2.2.1, C.2.2.2.1, C.2.2.2.2.1⟩ (cs_charAt (l := l) (D := D) (cy := cy) (X := X) (i := i9) (k := x) hi9 hnn hx3 (fun h9 => h9.elim hnn (fun h8 => by rw [e9] at h8; omega)) (by rw [c1]; exact c2)) hcw ⟨am_blindK, vk_recv hVS hi9 hA.2.2.2, am_preK (vs := [.ref (ad i9), .int x]) hK hbs hA.2.2.2⟩ rfl rfl hl.1 (by show (Value.int x :: Value.ref (1000000 + i9) :: st).map (am_cv b ad) = _; rw [List.map_cons, List.map_cons, had]; rfl) hlow hd hcap) ?_
  rw [List.map_cons] at h
  rw [c1]
  exact h
end SN5
end
section
/-! ===== one step ===== -/
section SN4
variable {p : Program} {l : Launch} {e : Env} {R : Room} {s : State} {m : MethodId} {args : Array Value} {below : List Frame} {meth : Method} {c : Code} {Q : State → Prop}
variable {b : Nat} {ad : Nat → Nat} {D : va_G} {cy : Nat → ClassId} {X : Nat × (Nat → Int32)} {mid cells slots j : Nat} {ls st : List Value} {M : am_M}

set_option maxHeartbeats 4000000 in
theorem am_step_ok (C : am_Ctx b ad D cy X mid p s m args meth c) {e9 : am_E} (hc : am_cd mid j = some e9) {j' : Nat} {ls' st' : List Value} {M' : am_M} (hs : am_step X e9 j ls st M = some (.inl (j', ls', st', M'))) (hN : M'.1.length ≤ 1000000) (hR : 8 ≤ R.frames ∧ 300 ≤ R.locals) (hcap : cells + (M'.1.length - M.1.length) ≤ R.cells ∧ slots + (am_sz M' - am_sz M) ≤ R.slots)
    (kk : ∀ c9 s9, c9 = cells + (M'.1.length - M.1.length) → s9 = slots + (am_sz M' - am_sz M) → am_G p l e R s m args below meth c Q b ad D cy mid c9 s9 j' ls' st' M') : am_G p l e R s m args below meth c Q b ad D cy mid cells slots j ls st M := by
  obtain ⟨i9, p0, r1, r2, r3⟩ := e9
  cases i9
  case iadd =>
    simp only [am_step, am_ii, am_nx] at hs
    split at hs
    · cases hs
      exact sd_iadd C hc (kk cells slots (by simp) (by simp))
    · cases hs
  case isub =>
    simp only [am_step, am_ii, am_nx] at hs
    split at hs
    · cases hs
      exact sd_isub C hc (kk cells slots (by simp) (by simp))
    · cases hs
  case imul =>
    simp only [am_step, am_ii, am_nx] at hs
    split at hs
    · cases hs
      exact sd_imul C hc (kk cells slots (by simp) (by simp))
    · cases hs
  case iand =>
    simp only [am_step, am_ii, am_nx] at hs
    split at hs
    · cases hs
      exact sd_iand C hc (kk cells slots (by simp) (by simp))
    · cases hs
  case ior =>
    simp only [am_step, am_ii, am_nx] at hs
    split at hs
    · cases hs
      exact sd_ior C hc (kk cells slots (by simp) (by simp))
    · cases hs
  case ixor =>
    simp only [am_step, am_ii, am_nx] at hs
    split at hs
    · cases hs
      exact sd_ixor C hc (kk cells slots (by simp) (by simp))
    · cases hs
  case ishl =>
    simp only [am_step, am_ii, am_nx] at hs
    split at hs
    · cases hs
      exact sd_ishl C hc (kk cells slots (by simp) (by simp))
    · cases hs
  case ishr =>
    simp only [am_step, am_ii, am_nx] at hs
    split at hs
    · cases hs
      exact sd_ishr C hc (kk cells slots (by simp) (by simp))
    · cases hs
  case iushr =>
    simp only [am_step, am_ii, am_nx] at hs
    split at hs
    · cases hs
      exact sd_iushr C hc (kk cells slots (by simp) (by simp))
    · cases hs
  case ineg =>
    simp only [am_step, am_i1, am_nx] at hs
    split at hs
    · cases hs
      exact sd_ineg C hc (kk cells slots (by simp) (by simp))
    · cases hs
  case i2b =>
    simp only [am_step, am_i1, am_nx] at hs
    split at hs
    · cases hs
      exact sd_i2b C hc (kk cells slots (by simp) (by simp))
    · cases hs
  case i2c =>
    simp only [am_step, am_i1, am_nx] at hs
    split at hs
    · cases hs
      exact sd_i2c C hc (kk cells slots (by simp) (by simp))
    · cases hs
  case i2l =>
    simp only [am_step, am_i2l, am_nx] at hs
    split at hs
    · cases hs
      exact sd_i2l C hc (kk cells slots (by simp) (by simp))
    · cases hs
  case l2i =>
    simp only [am_step, am_l2i, am_nx] at hs
    split at hs
    · cases hs
      exact sd_l2i C hc (kk cells slots (by simp) (by simp))
    · cases hs
  case ladd =>
    simp only [am_step, am_ll, am_nx] at hs
    split at hs
    · cases hs
      exact sd_ladd C hc (kk cells slots (by simp) (by simp))
    · cases hs
  case lsub =>
    simp only [am_step, am_ll, am_nx] at hs
    split at hs
    · cases hs
      exact sd_lsub C hc (kk cells slots (by simp) (by simp))
    · cases hs
  case lmul =>
    simp only [am_step, am_ll, am_nx] at hs
    split at hs
    · cases hs
      exact sd_lmul C hc (kk cells slots (by simp) (by simp))
    · cases hs
  case lneg =>
    simp only [am_step, am_lneg, am_nx] at hs
    split at hs
    · cases hs
      exact sd_lneg C hc (kk cells slots (by simp) (by simp))
    · cases hs
  case lcmp =>
    simp only [am_step, am_lcmp, am_nx] at hs
    split at hs
    · cases hs
      exact sd_lcmp C hc (kk cells slots (by simp) (by simp))
    · cases hs
  case idiv =>
    simp only [am_step, am_idiv, am_nx] at hs
    split at hs
    · split at hs
      · cases hs
      · rename_i h7
        cases hs
        exact sd_idiv C hc h7 (kk cells slots (by simp) (by simp))
    · cases hs
  case ldiv =>
    simp only [am_step, am_ldiv, am_nx] at hs
    split at hs
    · split at hs
      · cases hs
      · rename_i h7
        cases hs
        exact sd_ldiv C hc h7 (kk cells slots (by simp) (by simp))
    · cases hs
  case lrem =>
    simp only [am_step, am_ldiv, am_nx] at hs
    split at hs
    · split at hs
      · cases hs
      · rename_i h7
        cases hs
        exact sd_lrem C hc h7 (kk cells slots (by simp) (by simp))
    · cases hs
  case dup =>
    simp only [am_step, am_dup, am_nx] at hs
    split at hs
    · split at hs
      · rename_i h7
        cases hs
        exact sd_dup C hc h7 (kk cells slots (by simp) (by simp))
      · cases hs
    · cases hs
  case pop =>
    simp only [am_step, am_pop, am_nx] at hs
    split at hs
    · split at hs
      · rename_i h7
        cases hs
        exact sd_pop C hc h7 (kk cells slots (by simp) (by simp))
      · cases hs
    · cases hs
  case dup2 =>
    simp only [am_step, am_dup2, am_nx] at hs
    split at hs
    · split at hs
      · rename_i h7
        cases hs
        exact sd_dup2a C hc h7 (kk cells slots (by simp) (by simp))
      · split at hs
        · rename_i h7
          cases hs
          exact sd_dup2b C hc h7 (kk cells slots (by simp) (by simp))
        · cases hs
    · cases hs
  case iconst n9 =>
    simp only [am_step, am_ii, am_nx] at hs
    cases hs
    exact sd_iconst C hc (kk cells slots (by simp) (by simp))
  case bipush n9 =>
    simp only [am_step, am_ii, am_nx] at hs
    cases hs
    exact sd_bipush C hc (kk cells slots (by simp) (by simp))
  case sipush n9 =>
    simp only [am_step, am_ii, am_nx] at hs
    cases hs
    exact sd_sipush C hc (kk cells slots (by simp) (by simp))
  case lconst n9 =>
    simp only [am_step, am_ii, am_nx] at hs
    cases hs
    exact sd_lconst C hc (kk cells slots (by simp) (by simp))
  case ldc2_w n9 =>
    simp only [am_step, am_ii, am_nx] at hs
    cases hs
    exact sd_ldc2 C hc (kk cells slots (by simp) (by simp))
  case ldc n9 =>
    simp only [am_step, am_ii, am_nx] at hs
    cases hs
    exact sd_ldc C hc (kk cells slots (by simp) (by simp))
  case getstatic n9 =>
    simp only [am_step, am_ii, am_nx] at hs
    cases hs
    exact sd_gets C hc (kk cells slots (by simp) (by simp))
  case iload_n n9 =>
    simp only [am_step, am_ldi, am_nx] at hs
    split at hs
    · rename_i h7
      cases hs
      exact sd_iload_n C hc h7 (kk cells slots (by simp) (by simp))
    · cases hs
  case iload n9 =>
    simp only [am_step, am_ldi, am_nx] at hs
    split at hs
    · rename_i h7
      cases hs
      exact sd_iload C hc h7 (kk cells slots (by simp) (by simp))
    · cases hs
  case lload_n n9 =>
    simp only [am_step, am_ldl, am_nx] at hs
    split at hs
    · rename_i h7
      cases hs
      exact sd_lload_n C hc h7 (kk cells slots (by simp) (by simp))
    · cases hs
  case lload n9 =>
    simp only [am_step, am_ldl, am_nx] at hs
    split at hs
    · rename_i h7
      cases hs
      exact sd_lload C hc h7 (kk cells slots (by simp) (by simp))
    · cases hs
  case aload_n n9 =>
    simp only [am_step, am_lda, am_nx] at hs
    split at hs
    · rename_i h7
      cases hs
      exact sd_aload_n C hc h7 (kk cells slots (by simp) (by simp))
    · rename_i h7
      cases hs
      exact sd_aloadN_n C hc h7 (kk cells slots (by simp) (by simp))
    · cases hs
  case aload n9 =>
    simp only [am_step, am_lda, am_nx] at hs
    split at hs
    · rename_i h7
      cases hs
      exact sd_aload C hc h7 (kk cells slots (by simp) (by simp))
    · rename_i h7
      cases hs
      exact sd_aloadN C hc h7 (kk cells slots (by simp) (by simp))
    · cases hs
  case istore_n n9 =>
    simp only [am_step, am_sti, am_nx] at hs
    split at hs
    · split at hs
      · rename_i h7
        cases hs
        exact sd_istore_n (a := 0) C hc h7.1 h7.2 (kk cells slots (by simp) (by simp))
      · cases hs
    · cases hs
  case istore n9 =>
    simp only [am_step, am_sti, am_nx] at hs
    split at hs
    · split at hs
      · rename_i h7
        cases hs
        exact sd_istore (a := 0) C hc h7.1 h7.2 (kk cells slots (by simp) (by simp))
      · cases hs
    · cases hs
  case astore_n n9 =>
    simp only [am_step, am_sta, am_nx] at hs
    split at hs
    · split at hs
      · rename_i h7
        cases hs
        exact sd_astore_n C hc h7.1 h7.2 (kk cells slots (by simp) (by simp))
      · cases hs
    · cases hs
  case astore n9 =>
    simp only [am_step, am_sta, am_nx] at hs
    split at hs
    · split at hs
      · rename_i h7
        cases hs
        exact sd_astore C hc h7.1 h7.2 (kk cells slots (by simp) (by simp))
      · cases hs
    · cases hs
  case lstore_n n9 =>
    simp only [am_step, am_stl, am_nx] at hs
    split at hs
    · split at hs
      · rename_i h7
        cases hs
        exact sd_lstore_n (a := 0) C hc h7.1 h7.2 (kk cells slots (by simp) (by simp))
      · cases hs
    · cases hs
  case lstore n9 =>
    simp only [am_step, am_stl, am_nx] at hs
    split at hs
    · split at hs
      · rename_i h7
        cases hs
        exact sd_lstore (a := 0) C hc h7.1 h7.2 (kk cells slots (by simp) (by simp))
      · cases hs
    · cases hs
  case iinc n9 k9 =>
    simp only [am_step, am_inc, am_nx] at hs
    split at hs
    · rename_i h6
      split at hs
      · rename_i h7
        cases hs
        exact sd_iinc C hc h6 h7 (kk cells slots (by simp) (by simp))
      · cases hs
    · cases hs
  case getfield n9 =>
    simp only [am_step, am_getf, am_nx] at hs
    split at hs
    · split at hs
      · rename_i a9 st9 h7
        have hf := (am_fact (am_lt C) hc).2
        simp only [am_ck, am_fdok, Bool.and_eq_true, decide_eq_true_eq] at hf
        have h3 := hf.2.2.2.2
        rw [am_getD_eq (v := 2) hf.2.2.2.1] at h3
        split at hs
        · cases hs
          exact sd_get C hc h7 (by unfold am_fv; rw [h3]; rfl) (kk cells slots (by simp) (by simp))
        · cases hs
          exact sd_get C hc h7 (by unfold am_fv; rw [h3]; rfl) (kk cells slots (by simp) (by simp))
        · rename_i h8 h9
          cases hs
          refine sd_get C hc h7 ?_ (kk cells slots (by simp) (by simp))
          rw [am_rv_cv]
          unfold am_fv
          rw [h3]
          match r3, h8, h9 with
          | 0, h8, _ => exact (h8 rfl).elim
          | 1, _, h9 => exact (h9 rfl).elim
          | k9 + 2, _, _ => rfl
      · cases hs
    · cases hs
  case putfield n9 =>
    simp only [am_step, am_putf, am_nx] at hs
    have hf := (am_fact (am_lt C) hc).2
    simp only [am_ck, am_fdok, Bool.and_eq_true, decide_eq_true_eq] at hf
    have h3 := hf.2.2.1.2.2
    have h4 := am_ty_of hf.2.2.1.1 hf.2.2.1.2.1
    rw [h3] at h4
    rw [am_getD_eq (v := 2) hf.2.2.1.2.1] at h3
    split at hs
    · split at hs
      · rename_i x9 a9 st9 h7
        cases hs
        refine sd_put (w9 := .int x9) (M' := (M.1, M.2.1, u2 M.2.2.1 a9 r2 x9, M.2.2.2)) C hc h7 rfl rfl (fun q9 h9 => am_cell_congr rfl (u2_ne h9) rfl (fun i9 => rfl)) ?_ (fun i9 h9 => ?_) (fun ty9 hty => ?_) (kk cells slots (by simp) (by simp [am_sz]))
        · unfold am_fv
          rw [h3]
          exact congrArg Value.int u2_same
        · unfold am_fv
          dsimp only
          rw [u2_off h9]
        · rw [hty] at h4
          cases ty9 <;> first | exact h4.elim | exact ⟨rfl, rfl⟩
      · cases hs
    · split at hs
      · rename_i x9 a9 st9 h7
        cases hs
        refine sd_put (w9 := .long x9) (M' := (M.1, M.2.1, M.2.2.1, u2 M.2.2.2 a9 r2 x9)) C hc h7 rfl rfl (fun q9 h9 => am_cell_congr rfl rfl (u2_ne h9) (fun i9 => rfl)) ?_ (fun i9 h9 => ?_) (fun ty9 hty => ?_) (kk cells slots (by simp) (by simp [am_sz]))
        · unfold am_fv
          rw [h3]
          exact congrArg Value.long u2_same
        · unfold am_fv
          dsimp only
          rw [u2_off h9]
        · rw [hty] at h4
          cases ty9 <;> first | exact h4.elim | exact ⟨rfl, rfl⟩
      · cases hs
    · split at hs
      · rename_i v9 a9 st9 h7
        cases hs
        intro H locs cls hl hA
        obtain ⟨n8, hn8⟩ := am_kd_of h7.1 (by have := hf.2.2.1.1; omega)
        have hla : a9 < M.2.1.length := by rw [hA.2.2.1.1]; exact (am_place hA.2.2.1 hn8).1
        revert hA hl
        revert H locs cls
        refine sd_put (w9 := .ref v9) (M' := (M.1, am_wr M.2.1 a9 r2 (some v9), M.2.2.1, M.2.2.2)) C hc h7.1 rfl (by show (am_wr M.2.1 a9 r2 (some v9)).length = _; unfold am_wr; rw [List.length_set]) (fun q9 h9 => am_cell_congr rfl rfl rfl (fun i9 => ?_)) ?_ (fun i9 h9 => ?_) (fun ty9 hty => ?_) (kk cells slots (by simp) (by simp [am_sz]))
        · rw [am_rd_wr hla h7.2.2, if_neg (fun z => h9 z.1)]
        · unfold am_fv
          rw [h3]
          show va_rf ((am_rd (am_wr M.2.1 a9 r2 (some v9)) a9 r2).map (am_ad b ad)) = _
          rw [am_rd_wr hla h7.2.2, if_pos ⟨rfl, rfl⟩]
          rfl
        · unfold am_fv
          dsimp only
          rw [am_rd_wr hla h7.2.2, if_neg (fun z => h9 z.2)]
        · rw [hty] at h4
          cases ty9 <;> first | exact h4.elim | exact ⟨rfl, rfl⟩
      · cases hs
    · cases hs
  case iaload =>
    simp only [am_step, am_iald, am_nx] at hs
    split at hs
    · split at hs
      · rename_i h6
        split at hs
        · rename_i h7
          cases hs
          subst h6
          exact sd_ialdX C hc h7.1 (kk cells slots (by simp) (by simp))
        · cases hs
      · split at hs
        · rename_i h6
          split at hs
          · rename_i h7
            cases hs
            subst h6
            exact sd_ialdO C hc h7 (kk cells slots (by simp) (by simp))
          · cases hs
        · split at hs
          · rename_i h6
            split at hs
            · rename_i h7
              cases hs
              exact sd_iald C hc h6 h7 (kk cells slots (by simp) (by simp))
            · cases hs
          · cases hs
    · cases hs
  case arraylength =>
    simp only [am_step, am_alen, am_nx] at hs
    split at hs
    · split at hs
      · rename_i h6
        cases hs
        obtain ⟨rfl, -⟩ := h6
        exact sd_alenX C hc (kk cells slots (by simp) (by simp))
      · cases hs
    · cases hs
  case laload =>
    simp only [am_step, am_lald, am_nx] at hs
    split at hs
    · split at hs
      · rename_i h6
        split at hs
        · rename_i h7
          cases hs
          exact sd_lald C hc h6 h7 (kk cells slots (by simp) (by simp))
        · cases hs
      · cases hs
    · cases hs
  case iastore =>
    simp only [am_step, am_iast, am_nx] at hs
    split at hs
    · split at hs
      · rename_i h6
        split at hs
        · rename_i h7
          cases hs
          exact sd_iast C hc h6 h7 (kk cells slots (by simp) (by simp [am_sz]))
        · cases hs
      · cases hs
    · cases hs
  case lastore =>
    simp only [am_step, am_last, am_nx] at hs
    split at hs
    · split at hs
      · rename_i h6
        split at hs
        · rename_i h7
          cases hs
          exact sd_last C hc h6 h7 (kk cells slots (by simp) (by simp [am_sz]))
        · cases hs
      · cases hs
    · cases hs
  case baload =>
    simp only [am_step, am_bald, am_nx] at hs
    split at hs
    · split at hs
      · rename_i h6
        split at hs
        · rename_i h7
          cases hs
          exact sd_bald C hc h6 h7 (kk cells slots (by simp) (by simp))
        · cases hs
      · rename_i h6 h5
        split at hs
        · rename_i h7
          cases hs
          exact sd_zald C hc h6 h7 (kk cells slots (by simp) (by simp))
        · cases hs
      · cases hs
    · cases hs
  case bastore =>
    simp only [am_step, am_bast, am_nx] at hs
    split at hs
    · split at hs
      · rename_i h6
        split at hs
        · rename_i h7
          cases hs
          exact sd_bast C hc h6 h7 (kk cells slots (by simp) (by simp [am_sz]))
        · cases hs
      · rename_i h6 h5
        split at hs
        · rename_i h7
          cases hs
          exact sd_zast C hc h6 h7 (kk cells slots (by simp) (by simp [am_sz]))
        · cases hs
      · cases hs
    · cases hs
  case aaload =>
    simp only [am_step, am_aald, am_nx] at hs
    split at hs
    · split at hs
      · rename_i h6
        split at hs
        · rename_i h7
          cases hs
          exact sd_aald C hc (Or.inl rfl) h6 h7 (kk cells slots (by simp) (by simp))
        · cases hs
      · rename_i h6 h5
        split at hs
        · rename_i h7
          cases hs
          exact sd_aald C hc (Or.inr rfl) h6 h7 (kk cells slots (by simp) (by simp))
        · cases hs
      · cases hs
    · cases hs
  case aastore =>
    simp only [am_step, am_aast, am_nx] at hs
    split at hs
    · split at hs
      · rename_i h6
        split at hs
        · rename_i h7
          cases hs
          exact sd_aast C hc h6 h7.1 h7.2.1 h7.2.2.2 (kk cells slots (by simp) (by simp [am_sz]))
        · cases hs
      · cases hs
    · cases hs
  case if_icmp c9 z9 =>
    simp only [am_step, am_icmp, am_nx] at hs
    split at hs
    · rename_i y9 x9 st9
      cases c9
      case eq =>
        split at hs
        · rename_i h6
          cases hs
          simp only [am_cm, decide_eq_true_eq] at h6
          exact sd_icmp_eq C hc (fun _ => (kk cells slots (by simp) (by simp))) (fun h8 => absurd h6 h8)
        · rename_i h6
          cases hs
          simp only [am_cm, decide_eq_true_eq] at h6
          exact sd_icmp_eq C hc (fun h8 => absurd h8 h6) (fun _ => (kk cells slots (by simp) (by simp)))
      case ne =>
        split at hs
        · rename_i h6
          cases hs
          simp only [am_cm, decide_eq_true_eq] at h6
          exact sd_icmp_ne C hc (fun _ => (kk cells slots (by simp) (by simp))) (fun h8 => absurd h6 (fun z => z h8))
        · rename_i h6
          cases hs
          simp only [am_cm, decide_eq_true_eq] at h6
          exact sd_icmp_ne C hc (fun h8 => absurd h8 h6) (fun _ => (kk cells slots (by simp) (by simp)))
      case lt =>
        split at hs
        · rename_i h6
          cases hs
          simp only [am_cm, decide_eq_true_eq] at h6
          exact sd_icmp_lt C hc (fun _ => (kk cells slots (by simp) (by simp))) (fun h8 => absurd h6 h8)
        · rename_i h6
          cases hs
          simp only [am_cm, decide_eq_true_eq] at h6
          exact sd_icmp_lt C hc (fun h8 => absurd h8 h6) (fun _ => (kk cells slots (by simp) (by simp)))
      case ge =>
        split at hs
        · rename_i h6
          cases hs
          simp only [am_cm, decide_eq_true_eq] at h6
          exact sd_icmp_ge C hc (fun _ => (kk cells slots (by simp) (by simp))) (fun h8 => absurd h6 h8)
        · rename_i h6
          cases hs
          simp only [am_cm, decide_eq_true_eq] at h6
          exact sd_icmp_ge C hc (fun h8 => absurd h8 h6) (fun _ => (kk cells slots (by simp) (by simp)))
      case gt =>
        split at hs
        · rename_i h6
          cases hs
          simp only [am_cm, decide_eq_true_eq] at h6
          exact sd_icmp_gt C hc (fun _ => (kk cells slots (by simp) (by simp))) (fun h8 => absurd h6 h8)
        · rename_i h6
          cases hs
          simp only [am_cm, decide_eq_true_eq] at h6
          exact sd_icmp_gt C hc (fun h8 => absurd h8 h6) (fun _ => (kk cells slots (by simp) (by simp)))
      case le =>
        split at hs
        · rename_i h6
          cases hs
          simp only [am_cm, decide_eq_true_eq] at h6
          exact sd_icmp_le C hc (fun _ => (kk cells slots (by simp) (by simp))) (fun h8 => absurd h6 h8)
        · rename_i h6
          cases hs
          simp only [am_cm, decide_eq_true_eq] at h6
          exact sd_icmp_le C hc (fun h8 => absurd h8 h6) (fun _ => (kk cells slots (by simp) (by simp)))
    · cases hs
  case ifCond c9 z9 =>
    simp only [am_step, am_ifc, am_nx] at hs
    split at hs
    · rename_i x9 st9
      cases c9
      case eq =>
        split at hs
        · rename_i h6
          cases hs
          simp only [am_cm, decide_eq_true_eq] at h6
          exact sd_if_eq C hc (fun _ => (kk cells slots (by simp) (by simp))) (fun h8 => absurd h6 h8)
        · rename_i h6
          cases hs
          simp only [am_cm, decide_eq_true_eq] at h6
          exact sd_if_eq C hc (fun h8 => absurd h8 h6) (fun _ => (kk cells slots (by simp) (by simp)))
      case ne =>
        split at hs
        · rename_i h6
          cases hs
          simp only [am_cm, decide_eq_true_eq] at h6
          exact sd_if_ne C hc (fun _ => (kk cells slots (by simp) (by simp))) (fun h8 => absurd h6 (fun z => z h8))
        · rename_i h6
          cases hs
          simp only [am_cm, decide_eq_true_eq] at h6
          exact sd_if_ne C hc (fun h8 => absurd h8 h6) (fun _ => (kk cells slots (by simp) (by simp)))
      case lt =>
        split at hs
        · rename_i h6
          cases hs
          simp only [am_cm, decide_eq_true_eq] at h6
          exact sd_if_lt C hc (fun _ => (kk cells slots (by simp) (by simp))) (fun h8 => absurd h6 h8)
        · rename_i h6
          cases hs
          simp only [am_cm, decide_eq_true_eq] at h6
          exact sd_if_lt C hc (fun h8 => absurd h8 h6) (fun _ => (kk cells slots (by simp) (by simp)))
      case ge =>
        split at hs
        · rename_i h6
          cases hs
          simp only [am_cm, decide_eq_true_eq] at h6
          exact sd_if_ge C hc (fun _ => (kk cells slots (by simp) (by simp))) (fun h8 => absurd h6 h8)
        · rename_i h6
          cases hs
          simp only [am_cm, decide_eq_true_eq] at h6
          exact sd_if_ge C hc (fun h8 => absurd h8 h6) (fun _ => (kk cells slots (by simp) (by simp)))
      case gt =>
        split at hs
        · rename_i h6
          cases hs
          simp only [am_cm, decide_eq_true_eq] at h6
          exact sd_if_gt C hc (fun _ => (kk cells slots (by simp) (by simp))) (fun h8 => absurd h6 h8)
        · rename_i h6
          cases hs
          simp only [am_cm, decide_eq_true_eq] at h6
          exact sd_if_gt C hc (fun h8 => absurd h8 h6) (fun _ => (kk cells slots (by simp) (by simp)))
      case le =>
        split at hs
        · rename_i h6
          cases hs
          simp only [am_cm, decide_eq_true_eq] at h6
          exact sd_if_le C hc (fun _ => (kk cells slots (by simp) (by simp))) (fun h8 => absurd h6 h8)
        · rename_i h6
          cases hs
          simp only [am_cm, decide_eq_true_eq] at h6
          exact sd_if_le C hc (fun h8 => absurd h8 h6) (fun _ => (kk cells slots (by simp) (by simp)))
    · cases hs
  case goto z9 =>
    simp only [am_step, am_ii, am_nx] at hs
    cases hs
    exact sd_goto C hc (kk cells slots (by simp) (by simp))
  case tableswitch d9 lo9 hi9 o9 =>
    simp only [am_step, am_sw, am_nx] at hs
    split at hs
    · split at hs
      · rename_i h6
        split at hs
        · rename_i h7
          cases hs
          exact sd_tswD C hc h6 h7 (kk cells slots (by simp) (by simp))
        · rename_i h7
          split at hs
          · rename_i h8
            cases hs
            exact sd_tsw C hc h6 h7 h8 (kk cells slots (by simp) (by simp))
          · cases hs
      · cases hs
    · cases hs
  case new n9 =>
    simp only [am_step, am_new, am_nx] at hs
    split at hs
    · rename_i ts9 h6
      cases hs
      have hN2 : M.1.length < 1000000 := by have h8 := hN; simp [List.length_append] at h8; omega
      have hc1 : cells + 1 ≤ R.cells := by have := hcap.1; simpa [List.length_append] using this
      have hc2 : slots + ts9.length ≤ R.slots := by have := hcap.2; simpa [am_sz, List.sum_append] using this
      exact sd_new C hc h6 hN2 hc1 hc2 (kk _ _ (by simp [List.length_append]) (by simp [am_sz, List.sum_append]))
    · cases hs
  case newarray t9 =>
    simp only [am_step, am_newa, am_nx] at hs
    split at hs
    · split at hs
      · rename_i x9 st9 h7
        cases hs
        have hN2 : M.1.length < 1000000 := by have h8 := hN; simp [List.length_append] at h8; omega
        have hc1 : cells + 1 ≤ R.cells := by have := hcap.1; simpa [List.length_append] using this
        have hc2 : slots + x9.toNatClampNeg ≤ R.slots := by have := hcap.2; simpa [am_sz, List.sum_append] using this
        cases t9
        case int =>
          exact sd_newa_int C hc h7.1 h7.2.1 hN2 hc1 hc2 (kk _ _ (by simp [List.length_append]) (by simp [am_sz, List.sum_append]))
        case byte =>
          exact sd_newa_byte C hc h7.1 h7.2.1 hN2 hc1 hc2 (kk _ _ (by simp [List.length_append]) (by simp [am_sz, List.sum_append]))
        case boolean =>
          exact sd_newa_boolean C hc h7.1 h7.2.1 hN2 hc1 hc2 (kk _ _ (by simp [List.length_append]) (by simp [am_sz, List.sum_append]))
        case long =>
          exact sd_newa_long C hc h7.1 h7.2.1 hN2 hc1 hc2 (kk _ _ (by simp [List.length_append]) (by simp [am_sz, List.sum_append]))
        all_goals exact absurd rfl h7.2.2
      · cases hs
    · cases hs
  case anewarray n9 =>
    simp only [am_step, am_anew, am_nx] at hs
    split at hs
    · split at hs
      · rename_i x9 st9 h7
        cases hs
        have hN2 : M.1.length < 1000000 := by have h8 := hN; simp [List.length_append] at h8; omega
        have hc1 : cells + 1 ≤ R.cells := by have := hcap.1; simpa [List.length_append] using this
        have hc2 : slots + x9.toNatClampNeg ≤ R.slots := by have := hcap.2; simpa [am_sz, List.sum_append] using this
        exact sd_anew C hc h7.1 h7.2.1 hN2 hc1 hc2 (kk _ _ (by simp [List.length_append]) (by simp [am_sz, List.sum_append]))
      · cases hs
    · cases hs
  case multianewarray n9 k9 =>
    simp only [am_step, am_mna, am_nx] at hs
    split at hs
    · split at hs
      · rename_i x9 y9 st9 h7
        cases hs
        exact sd_mna C hc h7 hN hcap kk
      · cases hs
    · cases hs
  case invokevirtual n9 =>
    have hf := (am_fact (am_lt C) hc).2
    simp only [am_ck, Bool.and_eq_true] at hf
    simp only [am_step, am_inv, am_nx] at hs
    split at hs
    · exact absurd hf.2.2 (by simp)
    · exact absurd hf.2.2 (by simp)
    · exact absurd hf.2.2 (by simp)
    · exact absurd hf.2.2 (by simp)
    · exact absurd hf.2.2 (by simp)
    · exact absurd hf.2.2 (by simp)
    · split at hs
      · split at hs
        · rename_i h7
          cases hs
          exact sd_slen C hc h7 hR ⟨by simpa using hcap.1, by simpa using hcap.2⟩ (kk cells slots (by simp) (by simp))
        · cases hs
      · cases hs
    · split at hs
      · split at hs
        · rename_i h7
          cases hs
          exact sd_chat C hc h7 hR ⟨by simpa using hcap.1, by simpa using hcap.2⟩ (kk cells slots (by simp) (by simp))
        · cases hs
      · cases hs
    · split at hs
      · split at hs <;> cases hs
      · split at hs
        · split at hs <;> cases hs
        · cases hs
  case invokestatic n9 =>
    have hf := (am_fact (am_lt C) hc).2
    simp only [am_ck, Bool.and_eq_true] at hf
    simp only [am_step, am_inv, am_nx] at hs
    split at hs
    · exact absurd hf.2.2 (by simp)
    · split at hs
      · split at hs
        · rename_i h7
          cases hs
          exact sd_max C hc h7 hR ⟨by simpa using hcap.1, by simpa using hcap.2⟩ (kk cells slots (by simp) (by simp))
        · cases hs
      · cases hs
    · split at hs
      · split at hs
        · rename_i h7
          cases hs
          exact sd_min C hc h7 hR ⟨by simpa using hcap.1, by simpa using hcap.2⟩ (kk cells slots (by simp) (by simp))
        · cases hs
      · cases hs
    · split at hs
      · split at hs
        · rename_i h7
          cases hs
          exact sd_abs C hc h7 hR ⟨by simpa using hcap.1, by simpa using hcap.2⟩ (kk cells slots (by simp) (by simp))
        · cases hs
      · cases hs
    · split at hs
      · split at hs
        · rename_i h7
          cases hs
          exact sd_labs C hc h7 hR ⟨by simpa using hcap.1, by simpa using hcap.2⟩ (kk cells slots (by simp) (by simp))
        · cases hs
      · cases hs
    · split at hs
      · split at hs
        · rename_i h7
          cases hs
          exact sd_lmax C hc h7 hR ⟨by simpa using hcap.1, by simpa using hcap.2⟩ (kk cells slots (by simp) (by simp))
        · cases hs
      · cases hs
    · exact absurd hf.2.2 (by simp)
    · exact absurd hf.2.2 (by simp)
    · split at hs
      · split at hs <;> cases hs
      · split at hs
        · split at hs <;> cases hs
        · cases hs
  case invokespecial n9 =>
    have hf := (am_fact (am_lt C) hc).2
    simp only [am_ck, Bool.and_eq_true] at hf
    simp only [am_step, am_inv, am_nx] at hs
    split at hs
    · split at hs
      · split at hs
        · rename_i h7
          cases hs
          exact sd_obj C hc h7 hR (kk cells slots (by simp) (by simp))
        · cases hs
      · cases hs
    · exact absurd hf.2.2 (by simp)
    · exact absurd hf.2.2 (by simp)
    · exact absurd hf.2.2 (by simp)
    · exact absurd hf.2.2 (by simp)
    · exact absurd hf.2.2 (by simp)
    · exact absurd hf.2.2 (by simp)
    · exact absurd hf.2.2 (by simp)
    · split at hs
      · split at hs <;> cases hs
      · split at hs
        · split at hs <;> cases hs
        · cases hs
  all_goals (first | (simp [am_step] at hs; done) | (simp only [am_step, am_ret] at hs; split at hs <;> first | cases hs | (split at hs <;> cases hs)))
end SN4
end
section
set_option maxRecDepth 100000 in
theorem am_code_at {y : Nat} (h : y < 204) : ∃ i9 : Nat, lw_tbl[i9]? = some (Cond.code (am_y y) (am_b y) (am_nL y) (am_r y)) := by
  match y, h with
  | 0, _ => exact ⟨_, am_yc0⟩
  | 1, _ => exact ⟨_, am_yc1⟩
  | 2, _ => exact ⟨_, am_yc2⟩
  | 3, _ => exact ⟨_, am_yc3⟩
  | 4, _ => exact ⟨_, am_yc4⟩
  | 5, _ => exact ⟨_, am_yc5⟩
  | 6, _ => exact ⟨_, am_yc6⟩
  | 7, _ => exact ⟨_, am_yc7⟩
  | 8, _ => exact ⟨_, am_yc8⟩
  | 9, _ => exact ⟨_, am_yc9⟩
  | 10, _ => exact ⟨_, am_yc10⟩
  | 11, _ => exact ⟨_, am_yc11⟩
  | 12, _ => exact ⟨_, am_yc12⟩
  | 13, _ => exact ⟨_, am_yc13⟩
  | 14, _ => exact ⟨_, am_yc14⟩
  | 15, _ => exact ⟨_, am_yc15⟩
  | 16, _ => exact ⟨_, am_yc16⟩
  | 17, _ => exact ⟨_, am_yc17⟩
  | 18, _ => exact ⟨_, am_yc18⟩
  | 19, _ => exact ⟨_, am_yc19⟩
  | 20, _ => exact ⟨_, am_yc20⟩
  | 21, _ => exact ⟨_, am_yc21⟩
  | 22, _ => exact ⟨_, am_yc22⟩
  | 23, _ => exact ⟨_, am_yc23⟩
  | 24, _ => exact ⟨_, am_yc24⟩
  | 25, _ => exact ⟨_, am_yc25⟩
  | 26, _ => exact ⟨_, am_yc26⟩
  | 27, _ => exact ⟨_, am_yc27⟩
  | 28, _ => exact ⟨_, am_yc28⟩
  | 29, _ => exact ⟨_, am_yc29⟩
  | 30, _ => exact ⟨_, am_yc30⟩
  | 31, _ => exact ⟨_, am_yc31⟩
  | 32, _ => exact ⟨_, am_yc32⟩
  | 33, _ => exact ⟨_, am_yc33⟩
  | 34, _ => exact ⟨_, am_yc34⟩
  | 35, _ => exact ⟨_, am_yc35⟩
  | 36, _ => exact ⟨_, am_yc36⟩
  | 37, _ => exact ⟨_, am_yc37⟩
  | 38, _ => exact ⟨_, am_yc38⟩
  | 39, _ => exact ⟨_, am_yc39⟩
  | 40, _ => exact ⟨_, am_yc40⟩
  | 41, _ => exact ⟨_, am_yc41⟩
  | 42, _ => exact ⟨_, am_yc42⟩
  | 43, _ => exact ⟨_, am_yc43⟩
  | 44, _ => exact ⟨_, am_yc44⟩
  | 45, _ => exact ⟨_, am_yc45⟩
  | 46, _ => exact ⟨_, am_yc46⟩
  | 47, _ => exact ⟨_, am_yc47⟩
  | 48, _ => exact ⟨_, am_yc48⟩
  | 49, _ => exact ⟨_, am_yc49⟩
  | 50, _ => exact ⟨_, am_yc50⟩
  | 51, _ => exact ⟨_, am_yc51⟩
  | 52, _ => exact ⟨_, am_yc52⟩
  | 53, _ => exact ⟨_, am_yc53⟩
  | 54, _ => exact ⟨_, am_yc54⟩
  | 55, _ => exact ⟨_, am_yc55⟩
  | 56, _ => exact ⟨_, am_yc56⟩
  | 57, _ => exact ⟨_, am_yc57⟩
  | 58, _ => exact ⟨_, am_yc58⟩
  | 59, _ => exact ⟨_, am_yc59⟩
  | 60, _ => exact ⟨_, am_yc60⟩
  | 61, _ => exact ⟨_, am_yc61⟩
  | 62, _ => exact ⟨_, am_yc62⟩
  | 63, _ => exact ⟨_, am_yc63⟩
  | 64, _ => exact ⟨_, am_yc64⟩
  | 65, _ => exact ⟨_, am_yc65⟩
  | 66, _ => exact ⟨_, am_yc66⟩
  | 67, _ => exact ⟨_, am_yc67⟩
  | 68, _ => exact ⟨_, am_yc68⟩
  | 69, _ => exact ⟨_, am_yc69⟩
  | 70, _ => exact ⟨_, am_yc70⟩
  | 71, _ => exact ⟨_, am_yc71⟩
  | 72, _ => exact ⟨_, am_yc72⟩
  | 73, _ => exact ⟨_, am_yc73⟩
  | 74, _ => exact ⟨_, am_yc74⟩
  | 75, _ => exact ⟨_, am_yc75⟩
  | 76, _ => exact ⟨_, am_yc76⟩
  | 77, _ => exact ⟨_, am_yc77⟩
  | 78, _ => exact ⟨_, am_yc78⟩
  | 79, _ => exact ⟨_, am_yc79⟩
  | 80, _ => exact ⟨_, am_yc80⟩
  | 81, _ => exact ⟨_, am_yc81⟩
  | 82, _ => exact ⟨_, am_yc82⟩
  | 83, _ => exact ⟨_, am_yc83⟩
  | 84, _ => exact ⟨_, am_yc84⟩
  | 85, _ => exact ⟨_, am_yc85⟩
  | 86, _ => exact ⟨_, am_yc86⟩
  | 87, _ => exact ⟨_, am_yc87⟩
  | 88, _ => exact ⟨_, am_yc88⟩
  | 89, _ => exact ⟨_, am_yc89⟩
  | 90, _ => exact ⟨_, am_yc90⟩
  | 91, _ => exact ⟨_, am_yc91⟩
  | 92, _ => exact ⟨_, am_yc92⟩
  | 93, _ => exact ⟨_, am_yc93⟩
  | 94, _ => exact ⟨_, am_yc94⟩
  | 95, _ => exact ⟨_, am_yc95⟩
  | 96, _ => exact ⟨_, am_yc96⟩
  | 97, _ => exact ⟨_, am_yc97⟩
  | 98, _ => exact ⟨_, am_yc98⟩
  | 99, _ => exact ⟨_, am_yc99⟩
  | 100, _ => exact ⟨_, am_yc100⟩
  | 101, _ => exact ⟨_, am_yc101⟩
  | 102, _ => exact ⟨_, am_yc102⟩
  | 103, _ => exact ⟨_, am_yc103⟩
  | 104, _ => exact ⟨_, am_yc104⟩
  | 105, _ => exact ⟨_, am_yc105⟩
  | 106, _ => exact ⟨_, am_yc106⟩
  | 107, _ => exact ⟨_, am_yc107⟩
  | 108, _ => exact ⟨_, am_yc108⟩
  | 109, _ => exact ⟨_, am_yc109⟩
  | 110, _ => exact ⟨_, am_yc110⟩
  | 111, _ => exact ⟨_, am_yc111⟩
  | 112, _ => exact ⟨_, am_yc112⟩
  | 113, _ => exact ⟨_, am_yc113⟩
  | 114, _ => exact ⟨_, am_yc114⟩
  | 115, _ => exact ⟨_, am_yc115⟩
  | 116, _ => exact ⟨_, am_yc116⟩
  | 117, _ => exact ⟨_, am_yc117⟩
  | 118, _ => exact ⟨_, am_yc118⟩
  | 119, _ => exact ⟨_, am_yc119⟩
  | 120, _ => exact ⟨_, am_yc120⟩
  | 121, _ => exact ⟨_, am_yc121⟩
  | 122, _ => exact ⟨_, am_yc122⟩
  | 123, _ => exact ⟨_, am_yc123⟩
  | 124, _ => exact ⟨_, am_yc124⟩
  | 125, _ => exact ⟨_, am_yc125⟩
  | 126, _ => exact ⟨_, am_yc126⟩
  | 127, _ => exact ⟨_, am_yc127⟩
  | 128, _ => exact ⟨_, am_yc128⟩
  | 129, _ => exact ⟨_, am_yc129⟩
  | 130, _ => exact ⟨_, am_yc130⟩
  | 131, _ => exact ⟨_, am_yc131⟩
  | 132, _ => exact ⟨_, am_yc132⟩
  | 133, _ => exact ⟨_, am_yc133⟩
  | 134, _ => exact ⟨_, am_yc134⟩
  | 135, _ => exact ⟨_, am_yc135⟩
  | 136, _ => exact ⟨_, am_yc136⟩
  | 137, _ => exact ⟨_, am_yc137⟩
  | 138, _ => exact ⟨_, am_yc138⟩
  | 139, _ => exact ⟨_, am_yc139⟩
  | 140, _ => exact ⟨_, am_yc140⟩
  | 141, _ => exact ⟨_, am_yc141⟩
  | 142, _ => exact ⟨_, am_yc142⟩
  | 143, _ => exact ⟨_, am_yc143⟩
  | 144, _ => exact ⟨_, am_yc144⟩
  | 145, _ => exact ⟨_, am_yc145⟩
  | 146, _ => exact ⟨_, am_yc146⟩
  | 147, _ => exact ⟨_, am_yc147⟩
  | 148, _ => exact ⟨_, am_yc148⟩
  | 149, _ => exact ⟨_, am_yc149⟩
  | 150, _ => exact ⟨_, am_yc150⟩
  | 151, _ => exact ⟨_, am_yc151⟩
  | 152, _ => exact ⟨_, am_yc152⟩
  | 153, _ => exact ⟨_, am_yc153⟩
  | 154, _ => exact ⟨_, am_yc154⟩
  | 155, _ => exact ⟨_, am_yc155⟩
  | 156, _ => exact ⟨_, am_yc156⟩
  | 157, _ => exact ⟨_, am_yc157⟩
  | 158, _ => exact ⟨_, am_yc158⟩
  | 159, _ => exact ⟨_, am_yc159⟩
  | 160, _ => exact ⟨_, am_yc160⟩
  | 161, _ => exact ⟨_, am_yc161⟩
  | 162, _ => exact ⟨_, am_yc162⟩
  | 163, _ => exact ⟨_, am_yc163⟩
  | 164, _ => exact ⟨_, am_yc164⟩
  | 165, _ => exact ⟨_, am_yc165⟩
  | 166, _ => exact ⟨_, am_yc166⟩
  | 167, _ => exact ⟨_, am_yc167⟩
  | 168, _ => exact ⟨_, am_yc168⟩
  | 169, _ => exact ⟨_, am_yc169⟩
  | 170, _ => exact ⟨_, am_yc170⟩
  | 171, _ => exact ⟨_, am_yc171⟩
  | 172, _ => exact ⟨_, am_yc172⟩
  | 173, _ => exact ⟨_, am_yc173⟩
  | 174, _ => exact ⟨_, am_yc174⟩
  | 175, _ => exact ⟨_, am_yc175⟩
  | 176, _ => exact ⟨_, am_yc176⟩
  | 177, _ => exact ⟨_, am_yc177⟩
  | 178, _ => exact ⟨_, am_yc178⟩
  | 179, _ => exact ⟨_, am_yc179⟩
  | 180, _ => exact ⟨_, am_yc180⟩
  | 181, _ => exact ⟨_, am_yc181⟩
  | 182, _ => exact ⟨_, am_yc182⟩
  | 183, _ => exact ⟨_, am_yc183⟩
  | 184, _ => exact ⟨_, am_yc184⟩
  | 185, _ => exact ⟨_, am_yc185⟩
  | 186, _ => exact ⟨_, am_yc186⟩
  | 187, _ => exact ⟨_, am_yc187⟩
  | 188, _ => exact ⟨_, am_yc188⟩
  | 189, _ => exact ⟨_, am_yc189⟩
  | 190, _ => exact ⟨_, am_yc190⟩
  | 191, _ => exact ⟨_, am_yc191⟩
  | 192, _ => exact ⟨_, am_yc192⟩
  | 193, _ => exact ⟨_, am_yc193⟩
  | 194, _ => exact ⟨_, am_yc194⟩
  | 195, _ => exact ⟨_, am_yc195⟩
  | 196, _ => exact ⟨_, am_yc196⟩
  | 197, _ => exact ⟨_, am_yc197⟩
  | 198, _ => exact ⟨_, am_yc198⟩
  | 199, _ => exact ⟨_, am_yc199⟩
  | 200, _ => exact ⟨_, am_yc200⟩
  | 201, _ => exact ⟨_, am_yc201⟩
  | 202, _ => exact ⟨_, am_yc202⟩
  | 203, _ => exact ⟨_, am_yc203⟩
  | n + 204, h => omega
end
section
/-! ===== returns, calls, the whole run ===== -/
def am_wy (y : Nat) : List Cond := Cond.code (am_y y) (am_b y) (am_nL y) (am_r y) :: am_big
def am_rm (d mc ms : Nat) : Room := { frames := 8 + d, cells := mc, slots := ms, locals := 300 + 40 * d }
def am_Pc (b : Nat) (ad : Nat → Nat) (D : va_G) (cy : Nat → ClassId) (X : Nat × (Nat → Int32)) (vs : List Value) (M : am_M) : Array Value → State → Prop := fun a U => a = (vs.map (am_cv b ad)).toArray ∧ va_P D am_cl (am_ws cy b ad M) U.heap ∧ U.heap.size = b + M.1.length ∧ am_Kn b ad D cy X U U.heap
def am_Qc (b : Nat) (ad : Nat → Nat) (D : va_G) (cy : Nat → ClassId) (v : Option Value) (M : am_M) : Array Value → State → Outcome → State → Prop := fun _ st o t => o = .returned (v.map (am_cv b ad)) ∧ va_P D am_cl (am_ws cy b ad M) t.heap ∧ am_wf M ∧ st.heap.size ≤ t.heap.size ∧ ∀ q, q < b → t.heap[q]? = st.heap[q]?
theorem am_blind {b : Nat} {ad : Nat → Nat} {D : va_G} {cy : Nat → ClassId} {X : Nat × (Nat → Int32)} {vs : List Value} {M : am_M} : FrameBlind (am_Pc b ad D cy X vs M) := by
  intro a U g mk hp
  obtain ⟨h0, hP, hz, h1, h2, h3, ⟨kA, h4, h5⟩, h6, ⟨adV, h7⟩, ⟨h8, h88⟩, h9, h10, h11, h12⟩ := hp
  have hal : U.vm.Alike (U.calling g mk a).vm := Vm.Alike.refl U.vm
  exact ⟨h0, hP, hz, va_K.moved hal h1, fun q hqq => va_Nw.same rfl (rfl : U.vm = (U.calling g mk a).vm) (h2 q hqq), va_AO.moved hal h3, ⟨kA, h4, h5⟩, fun q hqq => vk_R.same (rfl : (U.calling g mk a).vm = U.vm) (h6 q hqq), ⟨adV, vk_S.moved hal h7⟩, ⟨va_Z.moved hal h8, va_Zq.moved hal h88⟩, va_Z.moved hal h9, va_T.moved hal h10, va_X.moved hal h11, h12⟩
theorem am_nm_ok : ∀ c, c < 13 → (am_nm c ≠ "java/lang/invoke/MethodHandle" ∧ am_nm c ≠ "java/lang/invoke/VarHandle") ∧ plainName (am_nm c) = true := by decide +kernel
theorem am_k_ok : ∀ y, y < 204 → am_k y < 12 ∧ am_nL y ≤ 20 := by decide +kernel
/-- the words of a method -/
theorem am_yfacts {y : Nat} (h : y < 204) : Cond.code (am_y y) (am_b y) (am_nL y) (am_r y) ∈ am_big ∧ Cond.initialized (am_y y).cls ∈ am_big ∧ (am_y y).cls = am_nm (am_k y) ∧ (am_yk y = 1 → Cond.static (am_y y) ∈ am_big) ∧ (am_yk y = 2 → Cond.instanceMethod (am_y y) ∈ am_big ∧ (am_y y).name = "<init>" ∧ am_r y = none) ∧ (am_yk y = 0 → Cond.instanceMethod (am_y y) ∈ am_big ∧ Cond.selects (am_y y).cls (am_y y) (am_y y) ∈ am_big) := by
  obtain ⟨i9, hi⟩ := am_code_at h
  have h1 := List.all_eq_true.mp am_yw_ok y (List.mem_range.mpr h)
  unfold am_ywok at h1
  unfold am_yk
  cases hh : am_ywT[y]? with
  | none => rw [hh] at h1; cases h1
  | some t9 =>
    obtain ⟨t, a1, a2, a3, a4⟩ := t9
    rw [hh] at h1
    simp only [Bool.and_eq_true, decide_eq_true_eq] at h1
    obtain ⟨e2, e3, e4⟩ := h1
    refine ⟨am_in hi rfl, am_in e2 rfl, e3, fun z => ?_, fun z => ?_, fun z => ?_⟩
    · simp only [Option.map_some, Option.getD_some] at z
      subst z
      simp only [decide_eq_true_eq] at e4
      exact am_in e4 rfl
    · simp only [Option.map_some, Option.getD_some] at z
      subst z
      simp only [Bool.and_eq_true, decide_eq_true_eq] at e4
      exact ⟨am_in e4.1 rfl, e4.2⟩
    · simp only [Option.map_some, Option.getD_some] at z
      subst z
      simp only [Bool.and_eq_true, decide_eq_true_eq] at e4
      exact ⟨am_in e4.1 rfl, am_in e4.2 rfl⟩
theorem am_wy_in {y : Nat} (h : y < 204) : ∀ w9 ∈ am_wy y, w9 ∈ am_big := fun w9 hw => by
  rcases List.mem_cons.mp hw with rfl | h9
  · exact (am_yfacts h).1
  · exact h9
theorem am_exp_len {b : Nat} {ad : Nat → Nat} : ∀ (vs : List Value), (lg_sl (vs.map (am_cv b ad))).length = (vs.flatMap fun v => if v.category = 2 then [v, Value.retAddr 0] else [v]).length
  | [] => rfl
  | v :: vs => by
    have ih := am_exp_len (b := b) (ad := ad) vs
    unfold lg_sl at ih ⊢
    rw [List.map_cons, List.flatMap_cons, List.flatMap_cons, List.length_append, List.length_append, ih, am_cv_cat]
    split <;> rfl
theorem am_exp_at {b : Nat} {ad : Nat → Nat} : ∀ (vs : List Value) (k i : Nat) (v : Value), (vs.flatMap fun v => if v.category = 2 then [v, Value.retAddr 0] else [v])[i]? = some v → (∀ z, v ≠ Value.retAddr z) → (k + i, am_cv b ad v) ∈ lv_args k (vs.map (am_cv b ad))
  | [], k, i, v, h, _ => by simp at h
  | u9 :: vs, k, i, v, h, hv => by
    rw [List.flatMap_cons] at h
    rw [List.map_cons]
    unfold lv_args
    rw [am_cv_cat]
    by_cases hc : u9.category = 2
    · rw [if_pos hc] at h ⊢
      match i, h with
      | 0, h => cases h; exact List.mem_cons_self
      | 1, h => cases h; exact absurd rfl (hv 0)
      | i + 2, h =>
        have h2 : (vs.flatMap fun v => if v.category = 2 then [v, Value.retAddr 0] else [v])[i]? = some v := h
        have h3 := am_exp_at (b := b) (ad := ad) vs (k + 2) i v h2 hv
        rw [show k + (i + 2) = k + 2 + i by omega]
        exact List.mem_cons_of_mem _ h3
    · rw [if_neg hc] at h ⊢
      match i, h with
      | 0, h => cases h; exact List.mem_cons_self
      | i + 1, h =>
        have h2 : (vs.flatMap fun v => if v.category = 2 then [v, Value.retAddr 0] else [v])[i]? = some v := h
        have h3 := am_exp_at (b := b) (ad := ad) vs (k + 1) i v h2 hv
        rw [show k + (i + 1) = k + 1 + i by omega]
        exact List.mem_cons_of_mem _ h3
theorem am_ent_lr {b : Nat} {ad : Nat → Nat} {n : Nat} {vs : List Value} (h : (am_ent n vs).length = n) : am_lr b ad (am_ent n vs) ((lg_sl (vs.map (am_cv b ad)) ++ List.replicate (n - (lg_sl (vs.map (am_cv b ad))).length) Slot.unset).toArray) n := by
  have hl : (lg_sl (vs.map (am_cv b ad))).length ≤ n := by
    rw [am_exp_len]
    unfold am_ent at h
    rw [List.length_append] at h
    omega
  have he := lv_entry (vs.map (am_cv b ad)) hl
  refine ⟨he.1, h, he.2.1, fun i v hi hv => ?_⟩
  unfold am_ent at hi
  by_cases hlt : i < (vs.flatMap fun v => if v.category = 2 then [v, Value.retAddr 0] else [v]).length
  · rw [List.getElem?_append_left hlt] at hi
    have h2 := am_exp_at (b := b) (ad := ad) vs 0 i v hi hv
    rw [Nat.zero_add] at h2
    exact he.2.2 _ h2
  · rw [List.getElem?_append_right (by omega)] at hi
    rw [List.getElem?_replicate] at hi
    split at hi
    · cases hi
      exact absurd rfl (hv 0)
    · cases hi
theorem am_ret_st {X : Nat × (Nat → Int32)} {e9 : am_E} {j : Nat} {ls st : List Value} {M : am_M} {v : Option Value} (h : am_step X e9 j ls st M = some (.inr (.inr v))) : st = v.toList ∧ (e9.1 = .ireturn ∨ e9.1 = .lreturn ∨ e9.1 = .areturn ∨ e9.1 = .return_) := by
  obtain ⟨i9, p0, r1, r2, r3⟩ := e9
  cases i9
  case ireturn =>
    simp only [am_step, am_ret] at h
    split at h <;> first | (cases h; done) | (rename_i z9; cases z9; done) | skip
    all_goals (first | (split at h <;> first | (cases h; exact ⟨rfl, Or.inl rfl⟩) | (cases h; done)) | (cases h; done) | skip)
  case lreturn =>
    simp only [am_step, am_ret] at h
    split at h <;> first | (cases h; exact ⟨rfl, Or.inr (Or.inl rfl)⟩) | (cases h; done) | (rename_i z9; cases z9; done) | skip
  case areturn =>
    simp only [am_step, am_ret] at h
    split at h <;> first | (cases h; exact ⟨rfl, Or.inr (Or.inr (Or.inl rfl))⟩) | (cases h; done) | (rename_i z9; cases z9; done) | skip
  case return_ =>
    simp only [am_step, am_ret] at h
    split at h <;> first | (cases h; exact ⟨rfl, Or.inr (Or.inr (Or.inr rfl))⟩) | (cases h; done) | (rename_i z9; cases z9; done) | skip
  all_goals first
    | (simp [am_step] at h; done)
    | (exfalso; simp only [am_step, am_lda, am_ldi, am_ldl, am_sti, am_sta, am_stl, am_inc, am_getf, am_putf, am_iald, am_bald, am_lald, am_aald, am_iast, am_bast, am_last, am_aast, am_alen, am_ii, am_i1, am_ll, am_idiv, am_ldiv, am_lneg, am_i2l, am_l2i, am_lcmp, am_dup, am_pop, am_dup2, am_icmp, am_ifc, am_sw, am_new, am_newa, am_anew, am_mna, am_ret, am_inv, am_nx] at h; (repeat' split at h) <;> cases h)
theorem am_step_mono {X : Nat × (Nat → Int32)} {e9 : am_E} {j j' : Nat} {ls st ls' st' : List Value} {M M' : am_M} (h : am_step X e9 j ls st M = some (.inl (j', ls', st', M'))) : M.1.length ≤ M'.1.length ∧ am_sz M ≤ am_sz M' := by
  obtain ⟨i9, p0, r1, r2, r3⟩ := e9
  cases i9
  all_goals first
    | (simp [am_step] at h; done)
    | (simp only [am_step, am_lda, am_ldi, am_ldl, am_sti, am_sta, am_stl, am_inc, am_getf, am_putf, am_iald, am_bald, am_lald, am_aald, am_iast, am_bast, am_last, am_aast, am_alen, am_ii, am_i1, am_ll, am_idiv, am_ldiv, am_lneg, am_i2l, am_l2i, am_lcmp, am_dup, am_pop, am_dup2, am_icmp, am_ifc, am_sw, am_new, am_newa, am_anew, am_mna, am_ret, am_inv, am_nx] at h
       (repeat' split at h) <;> first
         | (cases h; exact ⟨Nat.le_refl _, Nat.le_refl _⟩)
         | (cases h; simp [am_sz, List.sum_append, List.length_append]; done)
         | (cases h; done))
theorem am_call_st {X : Nat × (Nat → Int32)} {e9 : am_E} {j y : Nat} {ls st vs rest : List Value} {M : am_M} (h : am_step X e9 j ls st M = some (.inr (.inl (y, vs, rest)))) : ∃ ix, (e9.1 = .invokevirtual ix ∨ e9.1 = .invokestatic ix ∨ e9.1 = .invokespecial ix) ∧ e9.2.2.1 = y ∧ am_low rest = true ∧ ((e9.2.2.2.2 = 1 ∨ e9.2.2.2.2 = 4) ∧ st = vs.reverse ++ rest ∧ vs.length = e9.2.2.2.1 ∨ ¬ (e9.2.2.2.2 = 1 ∨ e9.2.2.2.2 = 4) ∧ ∃ a us, vs = .ref a :: us ∧ st = us.reverse ++ .ref a :: rest ∧ us.length = e9.2.2.2.1 ∧ am_kd M a = am_k y) := by
  have key : ∀ {y9 n b9 : Nat}, am_inv y9 n b9 j ls st M = some (.inr (.inl (y, vs, rest))) → y9 = y ∧ am_low rest = true ∧ ((b9 = 1 ∨ b9 = 4) ∧ st = vs.reverse ++ rest ∧ vs.length = n ∨ ¬ (b9 = 1 ∨ b9 = 4) ∧ ∃ a us, vs = .ref a :: us ∧ st = us.reverse ++ .ref a :: rest ∧ us.length = n ∧ am_kd M a = am_k y) := by
    intro y9 n b9 h
    simp only [am_inv, am_nx] at h
    split at h
    iterate 8 · exfalso; (repeat' split at h) <;> cases h
    split at h
    · rename_i hb
      split at h
      · rename_i h7
        cases h
        refine ⟨rfl, h7.2, Or.inl ⟨hb, ?_, ?_⟩⟩
        · rw [List.reverse_reverse, List.take_append_drop]
        · rw [List.length_reverse, List.length_take]
          omega
      · cases h
    · rename_i hb
      split at h
      · rename_i hd
        split at h
        · rename_i h7
          cases h
          refine ⟨rfl, h7.2, Or.inr ⟨hb, _, _, rfl, ?_, ?_, h7.1⟩⟩
          · rw [List.reverse_reverse, ← hd, List.take_append_drop]
          · rw [List.length_reverse, List.length_take]
            have h8 := congrArg List.length hd
            rw [List.length_drop, List.length_cons] at h8
            omega
        · cases h
      · cases h
  obtain ⟨i9, p0, r1, r2, r3⟩ := e9
  cases i9
  case invokevirtual ix => exact ⟨ix, Or.inl rfl, key h⟩
  case invokestatic ix => exact ⟨ix, Or.inr (Or.inl rfl), key h⟩
  case invokespecial ix => exact ⟨ix, Or.inr (Or.inr rfl), key h⟩
  all_goals first
    | (simp [am_step] at h; done)
    | (exfalso; simp only [am_step, am_lda, am_ldi, am_ldl, am_sti, am_sta, am_stl, am_inc, am_getf, am_putf, am_iald, am_bald, am_lald, am_aald, am_iast, am_bast, am_last, am_aast, am_alen, am_ii, am_i1, am_ll, am_idiv, am_ldiv, am_lneg, am_i2l, am_l2i, am_lcmp, am_dup, am_pop, am_dup2, am_icmp, am_ifc, am_sw, am_new, am_newa, am_anew, am_mna, am_ret, am_inv, am_nx] at h; (repeat' split at h) <;> cases h)
theorem am_ex_mono2 {X : Nat × (Nat → Int32)} : ∀ (n : Nat) {d mid j : Nat} {ls st : List Value} {M M' : am_M} {v : Option Value}, am_ex X n d mid j ls st M = some (v, M') → M.1.length ≤ M'.1.length ∧ am_sz M ≤ am_sz M' := by
  intro n
  induction n with
  | zero => intro d mid j ls st M M' v h; simp [am_ex] at h
  | succ n ih =>
    intro d mid j ls st M M' v h
    simp only [am_ex] at h
    cases hb : (am_cd mid j).bind (fun e => am_step X e j ls st M) with
    | none => rw [hb] at h; cases h
    | some a9 =>
      rw [hb] at h
      obtain ⟨e9, -, hs⟩ := Option.bind_eq_some_iff.mp hb
      match a9, h, hs with
      | .inl q, h, hs =>
        have h1 := am_step_mono hs
        have h2 := ih h
        exact ⟨Nat.le_trans h1.1 h2.1, Nat.le_trans h1.2 h2.2⟩
      | .inr (.inr u9), h, hs => cases h; exact ⟨Nat.le_refl _, Nat.le_refl _⟩
      | .inr (.inl q), h, hs =>
        match d, h with
        | d + 1, h =>
          simp only at h
          split at h
          · cases h1 : am_ex X n d q.1 0 (am_ent (am_nL q.1) q.2.1) [] M with
            | none => rw [h1] at h; cases h
            | some r1 =>
              obtain ⟨u9, M1⟩ := r1
              rw [h1] at h
              have h2 := ih h1
              have h3 := ih h
              exact ⟨Nat.le_trans h2.1 h3.1, Nat.le_trans h2.2 h3.2⟩
          · cases h
section SN6
variable {p : Program} {l : Launch} {e : Env} {R : Room} {s : State} {m : MethodId} {args : Array Value} {below : List Frame} {meth : Method} {c : Code} {Q : State → Prop}
variable {b : Nat} {ad : Nat → Nat} {D : va_G} {cy : Nat → ClassId} {X : Nat × (Nat → Int32)} {mid cells slots j : Nat} {ls st : List Value} {M M1 : am_M}

theorem am_after {H : Heap} {locs : List Loc} {mc ms : Nat} {cls : Array Slot} {st0 rest : List Value} {v1 : Option Value} {a9 : Array Value} (hl : am_lr b ad ls cls (am_nL mid)) (hA : am_At b ad D cy M s cells H locs) (hsz : H.size = b + M.1.length) (hle : M.1.length ≤ M1.1.length) (hmc : mc = M1.1.length - M.1.length) (hn : am_pc mid (j + 1) = am_pc mid j + 3) (hb : b ≤ s.heap.size)
    (hr : va_Run p l e R s m args below meth c H locs cells slots mc ms (F0 m (am_pc mid j) cls st0) (rest.map (am_cv b ad)) (am_Qc b ad D cy v1 M1 a9) (am_A b)) (kk : am_G p l e R s m args below meth c Q b ad D cy mid (cells + mc) (slots + ms) (j + 1) ls (v1.toList ++ rest) M1) : W p l e R s m args below meth c H locs cells slots Q (F0 m (am_pc mid j) cls st0) := by
  refine am_cont hr (fun v st₀ t L h0 hq hL => ?_)
  obtain ⟨q0, q1, q2, q3, q4⟩ := hq
  cases q0
  rw [h0] at q3 q4
  have h := kk t.heap (locs ++ L) cls hl ⟨q1, by have := hA.2.1; omega, q2, Nat.le_trans hA.2.2.2.1 q3, fun q9 h1 h2 => (q4 q9 (Nat.not_le.mp h2)).trans (hA.2.2.2.2.1 q9 h1 h2), fun l9 hl9 => by
    rcases List.mem_append.mp hl9 with h9 | h9
    · exact hA.2.2.2.2.2 l9 h9
    · exact hL l9 h9⟩
  rw [hn, List.map_append] at h
  have e9 : (Option.map (am_cv b ad) v1).toList = v1.toList.map (am_cv b ad) := by cases v1 <;> rfl
  rw [e9]
  exact h
theorem am_preP {vs : List Value} {H : Heap} {locs : List Loc} (C : am_Ctx b ad D cy X mid p s m args meth c) (hA : am_At b ad D cy M s cells H locs) (hsz : H.size = b + M.1.length) : ∀ U : State, U.heap = H → s.WarmedH U.vm → am_Pc b ad D cy X vs M ((vs.map (am_cv b ad)).toArray) U := by
  intro U hU hW
  refine ⟨rfl, by rw [hU]; exact hA.1, by rw [hU]; exact hsz, ?_⟩
  refine am_Kn_warm C.2.2.2.2.2.2.2.2.1 hW C.2.2.2.2.2.2.2.2.2.1 (fun q9 hq9 => ?_)
  rw [hU]
  exact hA.2.2.2.2.1 q9 (Nat.lt_of_lt_of_le hq9 C.2.2.2.2.2.2.2.2.2.1) (Nat.not_le.mpr hq9)
theorem sd_callV {ix p0 y n9 d mc ms a : Nat} {us rest : List Value} {v1 : Option Value} (C : am_Ctx b ad D cy X mid p s m args meth c) (hc : am_cd mid j = some (.invokevirtual ix, p0, y, n9, 0)) (hy : y < 204) (hR : 8 + (d + 1) ≤ R.frames ∧ 300 + 40 * (d + 1) ≤ R.locals) (hw : am_low rest = true) (hlen : us.length = n9) (hk : am_kd M a = am_k y)
    (hM : Met l (am_y y) (am_wy y) (am_rm d mc ms) (am_Pc b ad D cy X (.ref a :: us) M) (am_Qc b ad D cy v1 M1) mc ms (am_A b)) (hle : M.1.length ≤ M1.1.length) (hmc : mc = M1.1.length - M.1.length) (hcap : cells + mc ≤ R.cells ∧ slots + ms ≤ R.slots) (kk : am_G p l e R s m args below meth c Q b ad D cy mid (cells + mc) (slots + ms) (j + 1) ls (v1.toList ++ rest) M1) : am_G p l e R s m args below meth c Q b ad D cy mid cells slots j ls (us.reverse ++ .ref a :: rest) M := by
  intro H locs cls hl hA
  refine am_size C.2.2.2.2.2.2.2.2.2.1 hA (fun hsz => ?_)
  obtain ⟨hd, hck⟩ := am_fact (am_lt C) hc
  simp only [am_ck, am_callok, Bool.and_eq_true, if_neg (show ¬ 1000 ≤ y by omega), decide_eq_true_eq] at hck
  obtain ⟨-, ⟨⟨-, hnp⟩, hlk⟩, -⟩ := hck
  obtain ⟨f1, f2, f3, f4, f5, f6⟩ := am_yfacts hy
  obtain ⟨k1, k2⟩ := am_k_ok y hy
  have hne := (am_nm_ok (am_k y) (by omega)).1
  rw [← f3] at hne
  have hn := am_next (am_lt C) hc rfl
  have hlow := lv_room (m := m) (pc := am_pc mid j) (ls := cls) (rest := (us.reverse ++ .ref a :: rest).map (am_cv b ad)) (am_low_of (b := b) (ad := ad) hw)
  have hpre := am_preP (vs := .ref a :: us) C hA hsz
  have hrm : (am_rm d mc ms).frames + 1 ≤ R.frames ∧ 8 + (am_nL y + 11) + (am_rm d mc ms).locals ≤ R.locals := by
    show 8 + d + 1 ≤ _ ∧ 8 + (am_nL y + 11) + (300 + 40 * d) ≤ _
    omega
  have hin : ∀ w9 ∈ am_wy y, w9 ∈ am_big := am_wy_in hy
  obtain ⟨n2, hn2⟩ := am_kd_of hk (by omega)
  obtain ⟨hq1, hq2⟩ := am_place hA.2.2.1 hn2
  have he2 := am_ws_get (cy := cy) (b := b) (ad := ad) hq1
  rw [am_cell_obj hn2 (by omega)] at he2
  obtain ⟨Cn, T, N, ty, hcl, hty, hnm⟩ := am_class k1
  obtain ⟨e1, -⟩ := am_cl_facts k1 hcl
  have hrecv := va_recv C.2.2.2.2.2.2.2.2.1.1 hA.1 hcl he2
  rw [show (Cn, T, N).1 = (am_y y).cls from by rw [f3]; exact e1] at hrecv
  simp only [Bool.and_eq_true, beq_iff_eq] at hlk
  obtain ⟨g1, g2⟩ := f6 hlk.2
  have hlink := am_lk_mem hlk.1
  have hcw := cwV (rm := am_rm d mc ms) (R := R) n9 C.2.2.2.2.1 (am_goodIn (ws := wsV (am_nm (am_k mid)) ix (am_y y).cls (am_y y) (am_wy y)) (fun w9 hw9 => by
    unfold wsV at hw9
    rcases List.mem_append.mp hw9 with h9 | h9
    · simp only [List.mem_cons, List.not_mem_nil, or_false] at h9
      rcases h9 with rfl | rfl | rfl | rfl
      · exact hlink
      · exact g1
      · exact g2
      · exact f2
    · exact hin w9 h9)) (by rfl) rfl rfl ⟨rfl, hne.1, hne.2, hnp⟩ hrm
  refine am_after (M1 := M1) (rest := rest) hl hA hsz hle hmc hn C.2.2.2.2.2.2.2.2.2.1 (va_runV (As := us.map (am_cv b ad)) (rest := rest.map (am_cv b ad)) (b := b + a) ⟨C.1, C.2.1, C.2.2.1, C.2.2.2.1, C.2.2.2.2.1⟩ hM hcw ⟨am_blind, hrecv, fun U hU hW => by have h9 := hpre U hU hW; rw [List.map_cons, show am_cv b ad (.ref a) = .ref (b + a) from congrArg Value.ref (am_ad_lt hq2)] at h9; exact h9⟩ rfl (by rw [List.length_map]; exact hlen) hl.1 (by show (us.reverse ++ .ref a :: rest).map (am_cv b ad) = _; rw [List.map_append, List.map_cons, List.map_reverse, show am_cv b ad (.ref a) = .ref (b + a) from congrArg Value.ref (am_ad_lt hq2)]) hlow hd hcap) kk
theorem sd_callS {ix p0 y n9 d mc ms a : Nat} {us rest : List Value} {v1 : Option Value} (C : am_Ctx b ad D cy X mid p s m args meth c) (hc : am_cd mid j = some (.invokestatic ix, p0, y, n9, 1)) (hy : y < 204) (hR : 8 + (d + 1) ≤ R.frames ∧ 300 + 40 * (d + 1) ≤ R.locals) (hw : am_low rest = true) (hlen : us.length = n9) 
    (hM : Met l (am_y y) (am_wy y) (am_rm d mc ms) (am_Pc b ad D cy X (us) M) (am_Qc b ad D cy v1 M1) mc ms (am_A b)) (hle : M.1.length ≤ M1.1.length) (hmc : mc = M1.1.length - M.1.length) (hcap : cells + mc ≤ R.cells ∧ slots + ms ≤ R.slots) (kk : am_G p l e R s m args below meth c Q b ad D cy mid (cells + mc) (slots + ms) (j + 1) ls (v1.toList ++ rest) M1) : am_G p l e R s m args below meth c Q b ad D cy mid cells slots j ls (us.reverse ++ rest) M := by
  intro H locs cls hl hA
  refine am_size C.2.2.2.2.2.2.2.2.2.1 hA (fun hsz => ?_)
  obtain ⟨hd, hck⟩ := am_fact (am_lt C) hc
  simp only [am_ck, am_callok, Bool.and_eq_true, if_neg (show ¬ 1000 ≤ y by omega), decide_eq_true_eq] at hck
  obtain ⟨-, ⟨⟨-, hnp⟩, hlk⟩, -⟩ := hck
  obtain ⟨f1, f2, f3, f4, f5, f6⟩ := am_yfacts hy
  obtain ⟨k1, k2⟩ := am_k_ok y hy
  have hne := (am_nm_ok (am_k y) (by omega)).1
  rw [← f3] at hne
  have hn := am_next (am_lt C) hc rfl
  have hlow := lv_room (m := m) (pc := am_pc mid j) (ls := cls) (rest := (us.reverse ++ rest).map (am_cv b ad)) (am_low_of (b := b) (ad := ad) hw)
  have hpre := am_preP (vs := us) C hA hsz
  have hrm : (am_rm d mc ms).frames + 1 ≤ R.frames ∧ 8 + (am_nL y + 11) + (am_rm d mc ms).locals ≤ R.locals := by
    show 8 + d + 1 ≤ _ ∧ 8 + (am_nL y + 11) + (300 + 40 * d) ≤ _
    omega
  have hin : ∀ w9 ∈ am_wy y, w9 ∈ am_big := am_wy_in hy
  simp only [Bool.and_eq_true, beq_iff_eq] at hlk
  have g1 := f4 hlk.2.1
  have hlink := am_lk_mem hlk.1
  have hcw := cwS (rm := am_rm d mc ms) (R := R) n9 C.2.2.2.2.1 (am_goodIn (ws := wsS (am_nm (am_k mid)) ix (am_y y) (am_wy y)) (fun w9 hw9 => by
    unfold wsS at hw9
    rcases List.mem_append.mp hw9 with h9 | h9
    · simp only [List.mem_cons, List.not_mem_nil, or_false] at h9
      rcases h9 with rfl | rfl | rfl
      · exact hlink
      · exact g1
      · rw [hlk.2.2, ← f3]; exact f2
    · exact hin w9 h9)) (by rfl) rfl rfl ⟨by rw [f3, hlk.2.2], hne.1, hne.2, hnp⟩ hrm
  refine am_after (M1 := M1) (rest := rest) hl hA hsz hle hmc hn C.2.2.2.2.2.2.2.2.2.1 (va_runS (As := us.map (am_cv b ad)) (rest := rest.map (am_cv b ad)) ⟨C.1, C.2.1, C.2.2.1, C.2.2.2.1, C.2.2.2.2.1⟩ hM hcw ⟨am_blind, hpre⟩ rfl (by rw [List.length_map]; exact hlen) hl.1 (by show (us.reverse ++ rest).map (am_cv b ad) = _; rw [List.map_append, List.map_reverse]) hlow hd hcap) kk
theorem sd_callI {ix p0 y n9 d mc ms a : Nat} {us rest : List Value} {v1 : Option Value} (C : am_Ctx b ad D cy X mid p s m args meth c) (hc : am_cd mid j = some (.invokespecial ix, p0, y, n9, 2)) (hy : y < 204) (hR : 8 + (d + 1) ≤ R.frames ∧ 300 + 40 * (d + 1) ≤ R.locals) (hw : am_low rest = true) (hlen : us.length = n9) (hk : am_kd M a = am_k y)
    (hM : Met l (am_y y) (am_wy y) (am_rm d mc ms) (am_Pc b ad D cy X (.ref a :: us) M) (am_Qc b ad D cy v1 M1) mc ms (am_A b)) (hle : M.1.length ≤ M1.1.length) (hmc : mc = M1.1.length - M.1.length) (hcap : cells + mc ≤ R.cells ∧ slots + ms ≤ R.slots) (kk : am_G p l e R s m args below meth c Q b ad D cy mid (cells + mc) (slots + ms) (j + 1) ls (v1.toList ++ rest) M1) : am_G p l e R s m args below meth c Q b ad D cy mid cells slots j ls (us.reverse ++ .ref a :: rest) M := by
  intro H locs cls hl hA
  refine am_size C.2.2.2.2.2.2.2.2.2.1 hA (fun hsz => ?_)
  obtain ⟨hd, hck⟩ := am_fact (am_lt C) hc
  simp only [am_ck, am_callok, Bool.and_eq_true, if_neg (show ¬ 1000 ≤ y by omega), decide_eq_true_eq] at hck
  obtain ⟨-, ⟨⟨-, hnp⟩, hlk⟩, -⟩ := hck
  obtain ⟨f1, f2, f3, f4, f5, f6⟩ := am_yfacts hy
  obtain ⟨k1, k2⟩ := am_k_ok y hy
  have hne := (am_nm_ok (am_k y) (by omega)).1
  rw [← f3] at hne
  have hn := am_next (am_lt C) hc rfl
  have hlow := lv_room (m := m) (pc := am_pc mid j) (ls := cls) (rest := (us.reverse ++ .ref a :: rest).map (am_cv b ad)) (am_low_of (b := b) (ad := ad) hw)
  have hpre := am_preP (vs := .ref a :: us) C hA hsz
  have hrm : (am_rm d mc ms).frames + 1 ≤ R.frames ∧ 8 + (am_nL y + 11) + (am_rm d mc ms).locals ≤ R.locals := by
    show 8 + d + 1 ≤ _ ∧ 8 + (am_nL y + 11) + (300 + 40 * d) ≤ _
    omega
  have hin : ∀ w9 ∈ am_wy y, w9 ∈ am_big := am_wy_in hy
  obtain ⟨n2, hn2⟩ := am_kd_of hk (by omega)
  obtain ⟨hq1, hq2⟩ := am_place hA.2.2.1 hn2
  have he2 := am_ws_get (cy := cy) (b := b) (ad := ad) hq1
  rw [am_cell_obj hn2 (by omega)] at he2
  obtain ⟨Cn, T, N, ty, hcl, hty, hnm⟩ := am_class k1
  obtain ⟨e1, -⟩ := am_cl_facts k1 hcl
  have hrecv := va_recv C.2.2.2.2.2.2.2.2.1.1 hA.1 hcl he2
  rw [show (Cn, T, N).1 = (am_y y).cls from by rw [f3]; exact e1] at hrecv
  simp only [Bool.and_eq_true, beq_iff_eq] at hlk
  obtain ⟨g1, g2, g3⟩ := f5 hlk.2
  have hlink := am_lk_mem hlk.1
  have hcw := cwI (rm := am_rm d mc ms) (R := R) (bytes := am_b y) (maxL := am_nL y) n9 C.2.2.2.2.1 (am_goodIn hin) (by unfold am_wy; rw [g3]) rfl rfl (C.2.2.2.2.1 _ f2) (C.2.2.2.2.1 _ hlink) (C.2.2.2.2.1 _ g1) g2 ⟨hne.1, hne.2, hnp⟩ hrm
  refine am_after (M1 := M1) (rest := rest) hl hA hsz hle hmc hn C.2.2.2.2.2.2.2.2.2.1 (va_runI (As := us.map (am_cv b ad)) (rest := rest.map (am_cv b ad)) (b := b + a) ⟨C.1, C.2.1, C.2.2.1, C.2.2.2.1, C.2.2.2.2.1⟩ hM hcw ⟨am_blind, fun U hU hW => by have h9 := hpre U hU hW; rw [List.map_cons, show am_cv b ad (.ref a) = .ref (b + a) from congrArg Value.ref (am_ad_lt hq2)] at h9; exact h9⟩ rfl (by rw [List.length_map]; exact hlen) hl.1 (by show (us.reverse ++ .ref a :: rest).map (am_cv b ad) = _; rw [List.map_append, List.map_cons, List.map_reverse, show am_cv b ad (.ref a) = .ref (b + a) from congrArg Value.ref (am_ad_lt hq2)]) hlow hd hcap) kk
theorem sd_callSN {ix p0 y n9 d mc ms a : Nat} {us rest : List Value} {v1 : Option Value} (C : am_Ctx b ad D cy X mid p s m args meth c) (hc : am_cd mid j = some (.invokestatic ix, p0, y, n9, 4)) (hy : y < 204) (hR : 8 + (d + 1) ≤ R.frames ∧ 300 + 40 * (d + 1) ≤ R.locals) (hw : am_low rest = true) (hlen : us.length = n9) 
    (hM : Met l (am_y y) (am_wy y) (am_rm d mc ms) (am_Pc b ad D cy X (us) M) (am_Qc b ad D cy v1 M1) mc ms (am_A b)) (hle : M.1.length ≤ M1.1.length) (hmc : mc = M1.1.length - M.1.length) (hcap : cells + mc ≤ R.cells ∧ slots + ms ≤ R.slots) (kk : am_G p l e R s m args below meth c Q b ad D cy mid (cells + mc) (slots + ms) (j + 1) ls (v1.toList ++ rest) M1) : am_G p l e R s m args below meth c Q b ad D cy mid cells slots j ls (us.reverse ++ rest) M := by
  intro H locs cls hl hA
  refine am_size C.2.2.2.2.2.2.2.2.2.1 hA (fun hsz => ?_)
  obtain ⟨hd, hck⟩ := am_fact (am_lt C) hc
  simp only [am_ck, am_callok, Bool.and_eq_true, if_neg (show ¬ 1000 ≤ y by omega), decide_eq_true_eq] at hck
  obtain ⟨-, ⟨⟨-, hnp⟩, hlk⟩, -⟩ := hck
  obtain ⟨f1, f2, f3, f4, f5, f6⟩ := am_yfacts hy
  obtain ⟨k1, k2⟩ := am_k_ok y hy
  have hne := (am_nm_ok (am_k y) (by omega)).1
  rw [← f3] at hne
  have hn := am_next (am_lt C) hc rfl
  have hlow := lv_room (m := m) (pc := am_pc mid j) (ls := cls) (rest := (us.reverse ++ rest).map (am_cv b ad)) (am_low_of (b := b) (ad := ad) hw)
  have hpre := am_preP (vs := us) C hA hsz
  have hrm : (am_rm d mc ms).frames + 1 ≤ R.frames ∧ 8 + (am_nL y + 11) + (am_rm d mc ms).locals ≤ R.locals := by
    show 8 + d + 1 ≤ _ ∧ 8 + (am_nL y + 11) + (300 + 40 * d) ≤ _
    omega
  have hin : ∀ w9 ∈ am_wy y, w9 ∈ am_big := am_wy_in hy
  simp only [Bool.and_eq_true, beq_iff_eq] at hlk
  have g1 := f4 hlk.2
  have hnw := C.2.2.2.2.2.2.2.2.1.2.1 (am_k mid, ix, y) (by simpa using hlk.1)
  have hcw := va_cnB (rm := am_rm d mc ms) (R := R) (bytes := am_b y) (maxL := am_nL y) (ret := am_r y) n9 C.2.2.2.2.1 (am_goodIn hin) (by rfl) rfl rfl hnw (C.2.2.2.2.1 _ f2) ⟨hne.1, hne.2, hnp⟩ hrm
  refine am_after (M1 := M1) (rest := rest) hl hA hsz hle hmc hn C.2.2.2.2.2.2.2.2.2.1 (va_runSN (As := us.map (am_cv b ad)) (rest := rest.map (am_cv b ad)) ⟨C.1, C.2.1, C.2.2.1, C.2.2.2.1, C.2.2.2.2.1⟩ hM ⟨hcw, C.2.2.2.2.1 _ g1, trivial⟩ ⟨am_blind, hpre⟩ rfl (by rw [List.length_map]; exact hlen) hl.1 (by show (us.reverse ++ rest).map (am_cv b ad) = _; rw [List.map_append, List.map_reverse]) hlow hd hcap) kk
theorem sd_callIN {ix p0 y n9 d mc ms a : Nat} {us rest : List Value} {v1 : Option Value} (C : am_Ctx b ad D cy X mid p s m args meth c) (hc : am_cd mid j = some (.invokespecial ix, p0, y, n9, 5)) (hy : y < 204) (hR : 8 + (d + 1) ≤ R.frames ∧ 300 + 40 * (d + 1) ≤ R.locals) (hw : am_low rest = true) (hlen : us.length = n9) (hk : am_kd M a = am_k y)
    (hM : Met l (am_y y) (am_wy y) (am_rm d mc ms) (am_Pc b ad D cy X (.ref a :: us) M) (am_Qc b ad D cy v1 M1) mc ms (am_A b)) (hle : M.1.length ≤ M1.1.length) (hmc : mc = M1.1.length - M.1.length) (hcap : cells + mc ≤ R.cells ∧ slots + ms ≤ R.slots) (kk : am_G p l e R s m args below meth c Q b ad D cy mid (cells + mc) (slots + ms) (j + 1) ls (v1.toList ++ rest) M1) : am_G p l e R s m args below meth c Q b ad D cy mid cells slots j ls (us.reverse ++ .ref a :: rest) M := by
  intro H locs cls hl hA
  refine am_size C.2.2.2.2.2.2.2.2.2.1 hA (fun hsz => ?_)
  obtain ⟨hd, hck⟩ := am_fact (am_lt C) hc
  simp only [am_ck, am_callok, Bool.and_eq_true, if_neg (show ¬ 1000 ≤ y by omega), decide_eq_true_eq] at hck
  obtain ⟨-, ⟨⟨-, hnp⟩, hlk⟩, -⟩ := hck
  obtain ⟨f1, f2, f3, f4, f5, f6⟩ := am_yfacts hy
  obtain ⟨k1, k2⟩ := am_k_ok y hy
  have hne := (am_nm_ok (am_k y) (by omega)).1
  rw [← f3] at hne
  have hn := am_next (am_lt C) hc rfl
  have hlow := lv_room (m := m) (pc := am_pc mid j) (ls := cls) (rest := (us.reverse ++ .ref a :: rest).map (am_cv b ad)) (am_low_of (b := b) (ad := ad) hw)
  have hpre := am_preP (vs := .ref a :: us) C hA hsz
  have hrm : (am_rm d mc ms).frames + 1 ≤ R.frames ∧ 8 + (am_nL y + 11) + (am_rm d mc ms).locals ≤ R.locals := by
    show 8 + d + 1 ≤ _ ∧ 8 + (am_nL y + 11) + (300 + 40 * d) ≤ _
    omega
  have hin : ∀ w9 ∈ am_wy y, w9 ∈ am_big := am_wy_in hy
  obtain ⟨n2, hn2⟩ := am_kd_of hk (by omega)
  obtain ⟨hq1, hq2⟩ := am_place hA.2.2.1 hn2
  have he2 := am_ws_get (cy := cy) (b := b) (ad := ad) hq1
  rw [am_cell_obj hn2 (by omega)] at he2
  obtain ⟨Cn, T, N, ty, hcl, hty, hnm⟩ := am_class k1
  obtain ⟨e1, -⟩ := am_cl_facts k1 hcl
  have hrecv := va_recv C.2.2.2.2.2.2.2.2.1.1 hA.1 hcl he2
  rw [show (Cn, T, N).1 = (am_y y).cls from by rw [f3]; exact e1] at hrecv
  simp only [Bool.and_eq_true, beq_iff_eq] at hlk
  obtain ⟨g1, g2, g3⟩ := f5 hlk.2
  have hnw := C.2.2.2.2.2.2.2.2.1.2.1 (am_k mid, ix, y) (by simpa using hlk.1)
  have hcw := va_cnB (rm := am_rm d mc ms) (R := R) (bytes := am_b y) (maxL := am_nL y) (ret := none) n9 C.2.2.2.2.1 (am_goodIn hin) (by unfold am_wy; rw [g3]) rfl rfl hnw (C.2.2.2.2.1 _ f2) ⟨hne.1, hne.2, hnp⟩ hrm
  refine am_after (M1 := M1) (rest := rest) hl hA hsz hle hmc hn C.2.2.2.2.2.2.2.2.2.1 (va_runIN (As := us.map (am_cv b ad)) (rest := rest.map (am_cv b ad)) (b := b + a) ⟨C.1, C.2.1, C.2.2.1, C.2.2.2.1, C.2.2.2.2.1⟩ hM ⟨hcw, g2, C.2.2.2.2.1 _ g1⟩ ⟨am_blind, fun U hU hW => by have h9 := hpre U hU hW; rw [List.map_cons, show am_cv b ad (.ref a) = .ref (b + a) from congrArg Value.ref (am_ad_lt hq2)] at h9; exact h9⟩ rfl (by rw [List.length_map]; exact hlen) hl.1 (by show (us.reverse ++ .ref a :: rest).map (am_cv b ad) = _; rw [List.map_append, List.map_cons, List.map_reverse, show am_cv b ad (.ref a) = .ref (b + a) from congrArg Value.ref (am_ad_lt hq2)]) hlow hd hcap) kk
end SN6
end
section
/-! ===== the whole run of a method ===== -/
theorem am_pc0 : ∀ y, y < 205 → am_pc y 0 = 0 := by decide +kernel
theorem sd_ret {p : Program} {l : Launch} {e : Env} {R : Room} {s : State} {m : MethodId} {args : Array Value} {below : List Frame} {meth : Method} {c : Code} {b : Nat} {ad : Nat → Nat} {D : va_G} {cy : Nat → ClassId} {X : Nat × (Nat → Int32)} {mid cells slots j : Nat} {ls : List Value} {M : am_M} {v : Option Value} (C : am_Ctx b ad D cy X mid p s m args meth c) (hs : (am_cd mid j).bind (fun e9 => am_step X e9 j ls v.toList M) = some (.inr (.inr v))) :
    am_G p l e R s m args below meth c (MQ below (am_Qc b ad D cy v M) args s cells slots (am_A b)) b ad D cy mid cells slots j ls v.toList M := by
  intro H locs cls hl hA
  obtain ⟨e9, hc, hs⟩ := Option.bind_eq_some_iff.mp hs
  obtain ⟨hd, hck⟩ := am_fact (am_lt C) hc
  obtain ⟨-, hi⟩ := am_ret_st hs
  obtain ⟨i9, p0, r1, r2, r3⟩ := e9
  have hx := C.1
  have hb := C.2.1
  have hr := C.2.2.2.2.2.1
  have hlocks : meth.locks = false := C.2.2.2.2.2.2.1
  have hq : ∀ (t : State) (o9 : Outcome), t.heap = H → o9 = .returned (v.map (am_cv b ad)) → am_Qc b ad D cy v M args s o9 t := fun t o9 ht ho => ⟨ho, by rw [ht]; exact hA.1, hA.2.2.1, by rw [ht]; exact hA.2.2.2.1, fun q hq => by rw [ht]; exact hA.2.2.2.2.1 q (Nat.lt_of_lt_of_le hq C.2.2.2.2.2.2.2.2.2.1) (Nat.not_le.mpr hq)⟩
  have hf := hA.2.2.2.2.2
  simp only at hi
  rcases hi with rfl | rfl | rfl | rfl
  · simp only [am_step, am_ret] at hs
    simp only [am_ck, Bool.and_eq_true, decide_eq_true_eq] at hck
    match v, hs, hq with
    | some (.int x), hs, hq =>
      simp only [Option.toList] at hs
      split at hs
      · rename_i h7
        rcases hck.2 with ⟨z1, z2⟩ | ⟨z1, z2⟩
        · exact W.iret hx hb (by rw [hr, z2]) (fun t ht _ => hq t _ ht rfl) hf hd
        · refine W.zret (ty := .boolean) hx hb (by rw [hr, z2]) ?_ (fun t ht _ => hq t _ ht rfl) hf hd
          rcases h7 with h7 | rfl | rfl
          · omega
          · rfl
          · rfl
      · cases hs
    | none, hs, _ => cases hs
    | some (.long x), hs, _ => cases hs
    | some (.float x), hs, _ => cases hs
    | some (.double x), hs, _ => cases hs
    | some .null, hs, _ => cases hs
    | some (.ref x), hs, _ => cases hs
    | some (.retAddr x), hs, _ => cases hs
  · simp only [am_step, am_ret] at hs
    simp only [am_ck, Bool.and_eq_true, decide_eq_true_eq] at hck
    match v, hs, hq with
    | some (.long x), hs, hq => exact W.lret hx hb (by rw [hr, hck.2]) (fun t ht _ => hq t _ ht rfl) hf hd
    | none, hs, _ => cases hs
    | some (.int x), hs, _ => cases hs
    | some (.float x), hs, _ => cases hs
    | some (.double x), hs, _ => cases hs
    | some .null, hs, _ => cases hs
    | some (.ref x), hs, _ => cases hs
    | some (.retAddr x), hs, _ => cases hs
  · simp only [am_step, am_ret] at hs
    simp only [am_ck, Bool.and_eq_true] at hck
    match v, hs, hq with
    | some (.ref x), hs, hq =>
      have h2 := hck.2
      split at h2
      · rename_i n9 hn9
        exact W.aret (rt := .object n9) hx hb (by rw [hr, hn9]) (Or.inl ⟨_, rfl⟩) (Or.inr ⟨_, rfl⟩) (fun t ht _ => hq t _ ht rfl) hf hd
      · cases h2
    | none, hs, _ => cases hs
    | some (.int x), hs, _ => cases hs
    | some (.long x), hs, _ => cases hs
    | some (.float x), hs, _ => cases hs
    | some (.double x), hs, _ => cases hs
    | some .null, hs, _ => cases hs
    | some (.retAddr x), hs, _ => cases hs
  · simp only [am_step, am_ret] at hs
    simp only [am_ck, Bool.and_eq_true, decide_eq_true_eq] at hck
    match v, hs, hq with
    | none, hs, hq => exact W.vret hx hb (by rw [hr, hck.2]) (fun t ht _ => hq t _ ht rfl) hf hd
    | some (.int x), hs, _ => cases hs
    | some (.long x), hs, _ => cases hs
    | some (.float x), hs, _ => cases hs
    | some (.double x), hs, _ => cases hs
    | some .null, hs, _ => cases hs
    | some (.ref x), hs, _ => cases hs
    | some (.retAddr x), hs, _ => cases hs
/-- what the run of n steps at most gives -/
def am_Snd (l : Launch) (b : Nat) (ad : Nat → Nat) (D : va_G) (cy : Nat → ClassId) (X : Nat × (Nat → Int32)) (n : Nat) : Prop :=
  ∀ (d mid j : Nat) (ls st : List Value) (M : am_M) (v : Option Value) (M' : am_M), am_ex X n d mid j ls st M = some (v, M') → M'.1.length ≤ 1000000 →
    ∀ (p : Program) (e : Env) (R : Room) (s : State) (m : MethodId) (args : Array Value) (below : List Frame) (meth : Method) (c : Code) (Q : State → Prop) (cells slots : Nat), am_Ctx b ad D cy X mid p s m args meth c → (8 + d ≤ R.frames ∧ 300 + 40 * d ≤ R.locals) → (cells + (M'.1.length - M.1.length) ≤ R.cells ∧ slots + (am_sz M' - am_sz M) ≤ R.slots) →
    (∀ (j' : Nat) (ls' : List Value) (c9 s9 : Nat), (am_cd mid j').bind (fun e9 => am_step X e9 j' ls' v.toList M') = some (.inr (.inr v)) → c9 = cells + (M'.1.length - M.1.length) → s9 = slots + (am_sz M' - am_sz M) → am_G p l e R s m args below meth c Q b ad D cy mid c9 s9 j' ls' v.toList M') →
    am_G p l e R s m args below meth c Q b ad D cy mid cells slots j ls st M
theorem am_met {l : Launch} {b : Nat} {ad : Nat → Nat} {D : va_G} {cy : Nat → ClassId} {X : Nat × (Nat → Int32)} {n d y : Nat} {vs : List Value} {M M' : am_M} {v : Option Value} (ih : am_Snd l b ad D cy X n) (hy : y < 204) (hex : am_ex X n d y 0 (am_ent (am_nL y) vs) [] M = some (v, M')) (hlen : (am_ent (am_nL y) vs).length = am_nL y) (hN : M'.1.length ≤ 1000000) (hwf : am_wf M) :
    Met l (am_y y) (am_wy y) (am_rm d (M'.1.length - M.1.length) (am_sz M' - am_sz M)) (am_Pc b ad D cy X vs M) (am_Qc b ad D cy v M') (M'.1.length - M.1.length) (am_sz M' - am_sz M) (am_A b) := by
  obtain ⟨f1, f2, f3, f4, f5, f6⟩ := am_yfacts hy
  obtain ⟨k1, k2⟩ := am_k_ok y hy
  refine Met.ofW (cc := am_b y) (maxL := am_nL y) (ret := am_r y) (by rw [f3]; exact (am_nm_ok (am_k y) (by omega)).2) rfl ?_
  intro p e s m args below meth c s₁ B hml hv
  obtain ⟨rfl, hP, hsz, hK⟩ := hv
  have hts := atoms_spec (ws := am_wy y) B.pre
  have hown : s.vm.findClass (am_y y).cls = some m.cls := findClass_of_methodNamed B.named
  rw [f3] at hown
  have C : am_Ctx b ad D cy X y p s m (vs.map (am_cv b ad)).toArray meth c := ⟨B.exec, B.bytes, hml, hown, fun w9 hw => hts w9 (List.mem_cons_of_mem _ hw), B.returns, B.notSynchronized, fun z => ((name_of_methodNamed B.named B.method).1).trans (f5 z).2.1, hK, by rw [hsz]; exact Nat.le_add_right _ _, by omega⟩
  have h := ih d y 0 _ [] M v M' hex hN p e (headSpec (am_wy y) (am_rm d (M'.1.length - M.1.length) (am_sz M' - am_sz M))).room s m (vs.map (am_cv b ad)).toArray below meth c (MQ below (am_Qc b ad D cy v M') (vs.map (am_cv b ad)).toArray s (M'.1.length - M.1.length) (am_sz M' - am_sz M) (am_A b)) 0 0 C ⟨Nat.le_refl _, Nat.le_refl _⟩ ⟨by rw [Nat.zero_add]; exact Nat.le_refl _, by rw [Nat.zero_add]; exact Nat.le_refl _⟩ (fun j' ls' c9 s9 hs h1 h2 => by
    rw [Nat.zero_add] at h1 h2
    rw [h1, h2]
    exact sd_ret C hs)
  have h2 := h s.heap [] _ (am_ent_lr hlen) ⟨hP, by rw [hsz]; rfl, hwf, va_S.rf⟩
  rw [lg_entry_eq]
  have hpc : am_pc y 0 = 0 := am_pc0 y (by omega)
  rw [hpc] at h2
  exact h2
theorem am_sound (l : Launch) (b : Nat) (ad : Nat → Nat) (D : va_G) (cy : Nat → ClassId) (X : Nat × (Nat → Int32)) : ∀ n, am_Snd l b ad D cy X n := by
  intro n
  induction n with
  | zero => intro d mid j ls st M v M' h; simp [am_ex] at h
  | succ n ih =>
    intro d mid j ls st M v M' h hN p e R s m args below meth c Q cells slots C hR hcap hret
    simp only [am_ex] at h
    cases hb : (am_cd mid j).bind (fun e => am_step X e j ls st M) with
    | none => rw [hb] at h; cases h
    | some a9 =>
      rw [hb] at h
      obtain ⟨e9, hc, hs⟩ := Option.bind_eq_some_iff.mp hb
      match a9, h, hs with
      | .inl (j1, ls1, st1, M1), h, hs =>
        have m1 := am_step_mono hs
        have m2 := am_ex_mono2 n h
        dsimp only at h m2
        refine am_step_ok C hc hs (by omega) ⟨by omega, by omega⟩ ⟨by omega, by omega⟩ (fun c9 s9 hc9 hs9 => ?_)
        refine ih d mid j1 ls1 st1 M1 v M' h hN p e R s m args below meth c Q c9 s9 C hR ⟨by omega, by omega⟩ (fun j' ls' c8 s8 hj h1 h2 => hret j' ls' c8 s8 hj (by omega) (by omega))
      | .inr (.inr u9), h, hs =>
        cases h
        have e1 := (am_ret_st hs).1
        subst e1
        exact hret j ls cells slots hb (by omega) (by omega)
      | .inr (.inl (y, vs, rest)), h, hs =>
        match d, h, hR with
        | d + 1, h, hR =>
          simp only at h
          split at h
          · rename_i hlen
            cases h1 : am_ex X n d y 0 (am_ent (am_nL y) vs) [] M with
            | none => rw [h1] at h; cases h
            | some r1 =>
              obtain ⟨v1, M1⟩ := r1
              rw [h1] at h
              have m1 := am_ex_mono2 n h1
              have m2 := am_ex_mono2 n h
              dsimp only at h m1 m2
              have hgo : am_G p l e R s m args below meth c Q b ad D cy mid (cells + (M1.1.length - M.1.length)) (slots + (am_sz M1 - am_sz M)) (j + 1) ls (v1.toList ++ rest) M1 :=
                ih (d + 1) mid (j + 1) ls (v1.toList ++ rest) M1 v M' h hN p e R s m args below meth c Q _ _ C hR ⟨by omega, by omega⟩ (fun j' ls' c8 s8 hj z1 z2 => hret j' ls' c8 s8 hj (by omega) (by omega))
              have hck := (am_fact (am_lt C) hc).2
              obtain ⟨i9, p0, r1, r2, r3⟩ := e9
              obtain ⟨ix, hins, hyy, hlow, hshape⟩ := am_call_st hs
              simp only at hins hyy hshape
              subst hyy
              have hy : r1 < 204 := by
                by_cases h9 : 1000 ≤ r1
                · exfalso
                  rcases hins with rfl | rfl | rfl
                  · simp only [am_ck, if_pos h9, Bool.and_eq_true, Bool.or_eq_true, beq_iff_eq] at hck
                    rcases hck.2.2 with rfl | rfl
                    · simp only [am_step, am_inv, am_nx] at hs
                      (repeat' split at hs) <;> cases hs
                    · simp only [am_step, am_inv, am_nx] at hs
                      (repeat' split at hs) <;> cases hs
                  · simp only [am_ck, if_pos h9, Bool.and_eq_true, decide_eq_true_eq] at hck
                    have h8 : r1 = 1001 ∨ r1 = 1002 ∨ r1 = 1003 ∨ r1 = 1004 ∨ r1 = 1005 := by have := hck.2.2; omega
                    rcases h8 with rfl | rfl | rfl | rfl | rfl
                    all_goals (simp only [am_step, am_inv, am_nx] at hs; (repeat' split at hs) <;> cases hs)
                  · simp only [am_ck, if_pos h9, Bool.and_eq_true, beq_iff_eq] at hck
                    have h8 := hck.2.2
                    subst h8
                    simp only [am_step, am_inv, am_nx] at hs
                    (repeat' split at hs) <;> cases hs
                · rcases hins with rfl | rfl | rfl
                  all_goals (simp only [am_ck, am_callok, if_neg h9, Bool.and_eq_true, decide_eq_true_eq] at hck; exact hck.2.1.1.1)
              have h9 : ¬ 1000 ≤ r1 := by omega
              intro H locs cls hl hA
              have hM := am_met (d := d) (vs := vs) ih hy h1 hlen (by omega) hA.2.2.1
              refine (?_ : am_G p l e R s m args below meth c Q b ad D cy mid cells slots j ls st M) H locs cls hl hA
              rcases hins with rfl | rfl | rfl
              · simp only [am_ck, if_neg h9, Bool.and_eq_true, beq_iff_eq] at hck
                have h8 := hck.2.2
                subst h8
                rcases hshape with ⟨z1, -⟩ | ⟨-, a, us, rfl, rfl, z3, z4⟩
                · omega
                · exact sd_callV C hc hy hR hlow z3 z4 hM m1.1 rfl ⟨by omega, by omega⟩ hgo
              · simp only [am_ck, if_neg h9, Bool.and_eq_true, Bool.or_eq_true, beq_iff_eq] at hck
                rcases hck.2.2 with rfl | rfl
                · rcases hshape with ⟨-, rfl, z3⟩ | ⟨z1, -⟩
                  · exact sd_callS (a := 0) C hc hy hR hlow z3 hM m1.1 rfl ⟨by omega, by omega⟩ hgo
                  · omega
                · rcases hshape with ⟨-, rfl, z3⟩ | ⟨z1, -⟩
                  · exact sd_callSN (a := 0) C hc hy hR hlow z3 hM m1.1 rfl ⟨by omega, by omega⟩ hgo
                  · omega
              · simp only [am_ck, if_neg h9, Bool.and_eq_true, Bool.or_eq_true, beq_iff_eq] at hck
                rcases hck.2.2 with rfl | rfl
                · rcases hshape with ⟨z1, -⟩ | ⟨-, a, us, rfl, rfl, z3, z4⟩
                  · omega
                  · exact sd_callI C hc hy hR hlow z3 z4 hM m1.1 rfl ⟨by omega, by omega⟩ hgo
                · rcases hshape with ⟨z1, -⟩ | ⟨-, a, us, rfl, rfl, z3, z4⟩
                  · omega
                  · exact sd_callIN C hc hy hR hlow z3 z4 hM m1.1 rfl ⟨by omega, by omega⟩ hgo
          · cases h
end
section
/-! THE CLAIM OUT OF ONE WALK OF THE LAW'S BODY. Your part is whole_start (and what it stands on); all else here is the same for every law, but numbers. -/
def R_law : String := "PitchSquareLaw"
def lw_P (b : Addr) (xs : List Int32) (args : Array Value) (s : State) : Prop := args = #[.ref b] ∧ s.IntsAt b xs ∧ xs.length ≤ 4096 ∧ (Jvm.Cond.and given_1 narrow_1).before args s = true
def lw_Q (_ : Array Value) (s : State) (o : Outcome) (t : State) : Prop := o = .returned (some (.int 1)) ∧ Framed s o t [] 600000 7302250
def lw_Z (below : List Frame) (a : Array Value) (s : State) : State → Prop := fun t => ∃ o, t.status = .running ∧ Ended t below o ∧ lw_Q a s o t
/-- the law's own end, with 1 on the stack, nothing written that was there before, its room as the claim has it -/
theorem lw_ret {p : Program} {l : Launch} {e : Env} {s : State} {m : MethodId} {below : List Frame} {meth : Method} {c : Code} {b : Nat} (hx : p.tables.exec = Jvm.exec) (hb : c.code = code) (hr : meth.sig.returnType = ret) (hlocks : meth.locks = false) {pc : Nat} {H : Heap} {ls : Array Slot} (hdg : decode code pc = .ok (.ireturn, 1)) : W p l e room_1 s m #[Value.ref b] below meth c H [] 600000 7302250 (lw_Z below #[Value.ref b] s) (F0 m pc ls [.int 1]) := by
  intro T hT X
  obtain ⟨fs, hret, hrun, hended, hW, hframe⟩ := X.leave (v := some (.int 1)) (hlocks := hlocks) (fun h => by rw [hr] at h; cases h)
  have hmeth' : T.vm.method? m = some meth := X.method'
  refine ⟨T.setFrames fs, ?_, .returned (some (.int 1)), hrun, hended, rfl, ⟨_, rfl⟩, hW, hframe⟩
  jvm_step X.here [X.here.top, hx, hb, hdg, hmeth', hr, ret, narrow_b1]
  (try refine ⟨rfl, ?_⟩); (try refine ⟨rfl, ?_⟩)
  first | (intro acts; rw [hret _ acts rfl rfl rfl]) | rw [hret _ _ rfl rfl rfl]
  exact Steps.refl _
/-- what holds at the law's entry: the machine, the code, the tables' words (any of lw_tbl by 'hts w (by decide +kernel)'), the script of L ints xs at the cell b, what the Statement gives of the start (any of its parts by flat_of_before) -/
def lw_At (p : Program) (s : State) (m : MethodId) (meth : Method) (c : Code) (b L : Nat) (xs : Nat → Int32) : Prop :=
  p.tables.exec = Jvm.exec ∧ c.code = code ∧ meth.sig.returnType = ret ∧ c.maxLocals = 4 ∧ s.vm.findClass R_law = some m.cls ∧ (∀ w ∈ lw_tbl, w.before #[Value.ref b] s = true) ∧ va_X b L xs s s.heap ∧ b < s.heap.size ∧ meth.locks = false ∧ (Jvm.Cond.and given_1 narrow_1).before #[Value.ref b] s = true
end
section
/-! ===== the law's entry: what the Statement gives is what the small machine needs; its run gives the claim ===== -/
theorem am_AA_of {args : Array Value} {s : State} (h : (Cond.arrayOver (.array .int)).before args s = true) : ∃ (comp c9 : ClassId) (k9 : Class), s.vm.findClass ("[" ++ (FieldType.int).toString) = some comp ∧ s.vm.classes[c9]? = some k9 ∧ k9.kind = .array comp (.array .int) ∧ s.vm.findClass ("[" ++ (FieldType.array .int).toString) = some c9 := by
  simp only [Cond.before, Cond.holds, Cond.value, beq_iff_eq, Option.bind_eq_some_iff, Option.map_eq_some_iff] at h
  obtain ⟨comp, h1, c9, h2, k9, h3, h4⟩ := h
  obtain ⟨hlt, hp, -⟩ := Array.findIdx?_eq_some_iff_getElem.mp h2
  have hkk : s.vm.classes[c9] = k9 := (Array.getElem?_eq_some_iff.mp h3).2
  rw [hkk] at hp
  cases hkind : k9.kind with
  | array comp2 ty9 =>
    rw [hkind] at h4 hp
    simp only [Bool.and_eq_true, decide_eq_true_eq, beq_iff_eq] at h4 hp
    exact ⟨comp, c9, k9, h1, h3, by rw [hkind, hp, h4.1], h4.2⟩
  | _ => rw [hkind] at h4; cases h4
def am_tm (i : Nat) : Term := .string RX5 (am_srT.getD i (0, 0)).1
def am_atoms : List Cond := flatC (Jvm.Cond.and given_1 narrow_1)
set_option maxRecDepth 100000 in
theorem am_at1 : ∀ i, i < 10 → Cond.exactly (am_tm i) "java/lang/String" ∈ am_atoms ∧ Cond.eq (.field (am_tm i) "java/lang/String" "coder" "B") (.int 0) ∈ am_atoms ∧ Cond.arrayOf (.field (am_tm i) "java/lang/String" "value" "[B") .byte ∈ am_atoms ∧ Cond.eq (.length (.field (am_tm i) "java/lang/String" "value" "[B")) (.int (Int32.ofNat (am_slen.getD i 0))) ∈ am_atoms ∧ am_slen.getD i 0 < 2 ^ 31 := by decide +kernel
set_option maxRecDepth 100000 in
theorem am_at2 : ∀ i, i < 10 → ∀ j, j < am_slen.getD i 0 → Cond.eq (.elem (.field (am_tm i) "java/lang/String" "value" "[B") (.int (Int32.ofNat j))) (.int ((am_sbT.getD i []).getD j 0)) ∈ am_atoms := by decide +kernel
set_option maxRecDepth 100000 in
theorem am_at3 : ∀ i, i < 10 → ∀ j, j < 10 → i ≠ j → Cond.not (Cond.eq (am_tm i) (am_tm j)) ∈ am_atoms ∨ Cond.not (Cond.eq (am_tm j) (am_tm i)) ∈ am_atoms := by decide +kernel
set_option maxRecDepth 100000 in
theorem am_at4 : ∀ j, j < 8 → Cond.eq (.elem (.static "PitchSquare$Season" "ORDERS" "[I") (.int (Int32.ofNat j))) (.int (am_orders j)) ∈ am_atoms := by decide +kernel
set_option maxRecDepth 100000 in
theorem am_at5 : Cond.eq (.static "java/lang/String" "COMPACT_STRINGS" "Z") (.int 1) ∈ am_atoms ∧ Cond.arrayOf (.static "PitchSquare$Season" "ORDERS" "[I") .int ∈ am_atoms ∧ Cond.eq (.length (.static "PitchSquare$Season" "ORDERS" "[I")) (.int (Int32.ofNat 8)) ∈ am_atoms := by decide +kernel
set_option maxRecDepth 100000 in
theorem am_at6 : (∀ q ∈ am_srT, Cond.stringRef RX5 q.1 (am_stT.getD q.2 "") ∈ lw_tbl ∧ q = ((am_srT.getD q.2 (0, 0)).1, q.2) ∧ q.2 < 10) ∧ (∀ q ∈ am_neT, Cond.methodLinkNest (am_nm q.1) q.2.1 (am_y q.2.2) "PitchSquare" ∈ lw_tbl) := by decide +kernel
set_option maxRecDepth 100000 in
theorem am_at7 : Cond.arrayOver (.object RX8) ∈ lw_tbl ∧ Cond.arrayOver (.array .int) ∈ lw_tbl ∧ Cond.arrayClass .int ∈ lw_tbl ∧ Cond.arrayClass .byte ∈ lw_tbl ∧ Cond.arrayClass .boolean ∈ lw_tbl ∧ Cond.arrayClass .long ∈ lw_tbl ∧ Cond.laysStatic "java/lang/String" "COMPACT_STRINGS" "Z" ∈ lw_tbl ∧ Cond.initialized "java/lang/String" ∈ lw_tbl ∧ Cond.laysStatic "PitchSquare$Season" "ORDERS" "[I" ∈ lw_tbl ∧ Cond.initialized "PitchSquare$Season" ∈ lw_tbl ∧ Cond.laysStatic "jdk/internal/util/Preconditions" "SIOOBE_FORMATTER" "Ljava/util/function/BiFunction;" ∈ lw_tbl ∧ Cond.initialized "jdk/internal/util/Preconditions" ∈ lw_tbl ∧ Cond.isRef (.static "jdk/internal/util/Preconditions" "SIOOBE_FORMATTER" "Ljava/util/function/BiFunction;") ∈ am_atoms := by decide +kernel
theorem am_arrOf {args : Array Value} {s : State} {ty : FieldType} (h : (Cond.arrayClass ty).before args s = true) : ∃ c9 : ClassId, ArrOfT s c9 ty ∧ s.vm.findClass ("[" ++ ty.toString) = some c9 := by
  obtain ⟨c9, k9, comp, h1, h2, h3⟩ := Cond.arrayClass_spec h
  exact ⟨c9, fun n z => ⟨fun k h => (by cases h), k9, h2, comp, h3⟩, h1⟩
theorem am_vkS {A : Nat → Prop} {s : State} {H : Heap} {adK ad adV : Nat → Nat} (h : vk_S 10 am_slen am_sbT adK adV A s H) (he : ∀ i, i < 10 → ad i = adK i) : vk_S 10 am_slen am_sbT ad adV A s H := by
  refine ⟨fun i hi => ?_, fun i j hi hj h1 => ?_⟩
  · rw [he i hi]
    exact h.1 i hi
  · rw [he i hi, he j hj] at h1
    exact h.2 i j hi hj h1
/-- the entry: the constants' addresses, the classes' numbers, and all that is known there -/
theorem am_entry {p : Program} {s : State} {m : MethodId} {meth : Method} {c : Code} {b L : Nat} {xs : Nat → Int32} (C0 : lw_At p s m meth c b L xs) : ∃ (ad : Nat → Nat) (D : va_G) (cy : Nat → ClassId), ad 50 = b ∧ am_Ctx s.heap.size ad D cy (L, xs) 204 p s m #[Value.ref b] meth c := by
  obtain ⟨hx, hb, hr, hml, hown, hts, hX, hbl, hlocks, hgv⟩ := C0
  have hat : ∀ w9 ∈ am_atoms, w9.before #[Value.ref b] s = true := flat_of_before _ hgv
  have hnA : ∀ a : Nat, a < s.heap.size → ¬ am_A s.heap.size a := fun a h1 h2 => absurd h1 (Nat.not_lt.mpr h2)
  obtain ⟨w1, w2, w3, w4, w5, w6, w7, w8, w9, w10, w11, w12, w13⟩ := am_at7
  obtain ⟨adK, adV, hS, hev⟩ := vk_Sof (args := #[Value.ref b]) (s := s) (N := 10) (tm := am_tm) (len := am_slen) (byt := am_sbT) (A := am_A s.heap.size) (fun i hi => (am_at1 i hi).2.2.2.2) (fun i hi => hat _ (am_at1 i hi).1) (fun i hi => hat _ (am_at1 i hi).2.1) (fun i hi => hat _ (am_at1 i hi).2.2.1) (fun i hi => hat _ (am_at1 i hi).2.2.2.1) (fun i hi j hj => hat _ (am_at2 i hi j hj))
    (fun i j hi hj hij => (am_at3 i hi j hj hij).elim (fun h => Or.inl (hat _ h)) (fun h => Or.inr (hat _ h))) hnA
  obtain ⟨tO, hO1, hO2⟩ := va_Tof (args := #[Value.ref b]) (s := s) (tm := .static "PitchSquare$Season" "ORDERS" "[I") (ty := .int) (N := 8) (f := fun k => .int (am_orders k)) (A := am_A s.heap.size) (by decide) (hat _ am_at5.2.1) (va_eqt (hat _ am_at5.2.2)) (fun j hj => va_eqt (hat _ (am_at4 j hj))) hnA
  obtain ⟨cI, a1, a2⟩ := am_arrOf (hts _ w3)
  obtain ⟨cB, b1, b2⟩ := am_arrOf (hts _ w4)
  obtain ⟨cZ, d1, d2⟩ := am_arrOf (hts _ w5)
  obtain ⟨cJ, f1, f2⟩ := am_arrOf (hts _ w6)
  obtain ⟨compT, cT, kT, g1, -, g3, g4, g5⟩ := Cond.arrayOver_spec (hts _ w1)
  obtain ⟨compA, cA, kA, i1, i2, i3, i4⟩ := am_AA_of (hts _ w2)
  have hcomp : compA = cI := Option.some.inj (i1.symm.trans a2)
  subst hcomp
  have hcls : ∀ c9 : Nat, ∃ q9 : ClassId × (Nat → Nat), ∀ r9 : vw_C, am_cl[c9]? = some r9 → u_Kn s r9.1 r9.2.1 r9.2.2 q9.1 q9.2 := by
    intro c9
    by_cases h12 : c9 < 12
    · obtain ⟨Cn, T, N, ty, hcl, -, -⟩ := am_class h12
      obtain ⟨e1, e2, e3, e4, e5, e6⟩ := am_cl_facts h12 hcl
      have hbig : ∀ z9 ∈ am_big, z9.before #[Value.ref b] s = true := fun z9 hz => hts z9 (List.mem_filter.mp hz).1
      obtain ⟨cC, iS, hk⟩ := u_known (args := #[Value.ref b]) (s := s) hbig e5 (hbig _ e2)
      refine ⟨(cC, iS), fun r9 hr9 => ?_⟩
      rw [hcl] at hr9
      cases hr9
      exact hk
    · refine ⟨(0, fun _ => 0), fun r9 hr9 => ?_⟩
      have := (List.getElem?_eq_some_iff.mp hr9).1
      have h3 : am_cl.length = 12 := rfl
      omega
  obtain ⟨DD, hDD⟩ := Classical.axiomOfChoice hcls
  have hother : ∀ k, k < 10 → (fun i => if i = 40 then tO else if i = 50 then b else adK i) k = adK k := fun k hk => by
    show (if k = 40 then tO else if k = 50 then b else adK k) = adK k
    rw [if_neg (by omega), if_neg (by omega)]
  refine ⟨fun i => if i = 40 then tO else if i = 50 then b else adK i, (fun c9 => (DD c9).1, fun c9 => (DD c9).2), fun k => if k = 100 then compA else if k = 101 then cB else if k = 102 then cZ else if k = 103 then cJ else if k = 104 then cT else cA, rfl, hx, hb, hml, hown, fun z9 hz => hts z9 (List.mem_filter.mp hz).1, hr, hlocks, fun z => absurd z (by decide), ?_, Nat.le_refl _, by omega⟩
  refine ⟨⟨fun c9 r9 hr9 => hDD c9 r9 hr9, fun k9 q9 hk9 => ?_⟩, fun q9 hq9 => va_Nw.of rfl (hts _ (am_at6.2 q9 hq9)), va_AO.of (hts _ w1), ⟨kA, i2, i3⟩, fun q9 hq9 => ?_, ⟨adV, am_vkS hS hother⟩, ⟨va_Zof (hts _ w7) (hts _ w8) (va_eqi (hat _ am_at5.1)) hnA, va_Zqof (hts _ w11) (hts _ w12) (hat _ w13) hnA⟩, va_Zof (hts _ w9) (hts _ w10) hO1 hnA, hO2, hX, hbl⟩
  · match k9, hk9 with
    | 0, hk9 => cases hk9; exact ⟨a1, a2⟩
    | 1, hk9 => cases hk9; exact ⟨b1, b2⟩
    | 2, hk9 => cases hk9; exact ⟨d1, d2⟩
    | 3, hk9 => cases hk9; exact ⟨f1, f2⟩
    | 4, hk9 => cases hk9; exact ⟨fun n z => ⟨fun k h => (by cases h), kT, g3, compT, g4⟩, kT, compT, g3, g4, g1, g5⟩
    | 5, hk9 => cases hk9; exact ⟨fun n z => ⟨fun k h => (by cases h), kA, i2, compA, i3⟩, i4⟩
    | n + 6, hk9 => cases hk9
  · obtain ⟨h1, h2, h3⟩ := am_at6.1 q9 hq9
    have h4 : (fun i => if i = 40 then tO else if i = 50 then b else adK i) q9.2 = adK q9.2 := hother q9.2 h3
    dsimp only at h4 ⊢
    rw [h4]
    have h5 := hev q9.2 h3
    have h6 : q9.1 = (am_srT.getD q9.2 (0, 0)).1 := by have h7 := congrArg Prod.fst h2; exact h7
    refine vk_R.of (hts _ h1) ?_
    rw [h6]
    exact h5
def am_M0 : am_M := ([], [], fun _ _ => 0, fun _ _ => 0)
/-- the run of the law in the small machine gives the walk of the law -/
theorem am_whole {p : Program} {e : Env} {s : State} {m : MethodId} {below : List Frame} {meth : Method} {c : Code} (l : Launch) {b L : Nat} {xs : Nat → Int32} (C0 : lw_At p s m meth c b L xs)
    (hrun : am_wp (L, xs) 30 204 0 [.ref 1000050, .retAddr 0, .retAddr 0, .retAddr 0] [] am_M0 (fun v M' => v = some (.int 1) ∧ M'.1.length ≤ 600000 ∧ am_sz M' ≤ 7302250)) :
    W p l e room_1 s m #[Value.ref b] below meth c s.heap [] 0 0 (lw_Z below #[Value.ref b] s) (entryFrame m ([Value.ref b] : List Value).toArray 4) := by
  obtain ⟨ad, D, cy, hb5, C⟩ := am_entry C0
  obtain ⟨n, v, M', hex, rfl, hM1, hM2⟩ := hrun
  have hret : ∀ (j' : Nat) (ls' : List Value) (c9 s9 : Nat), (am_cd 204 j').bind (fun e9 => am_step (L, xs) e9 j' ls' (some (Value.int 1)).toList M') = some (.inr (.inr (some (Value.int 1)))) → c9 = 0 + (M'.1.length - am_M0.1.length) → s9 = 0 + (am_sz M' - am_sz am_M0) → am_G p l e room_1 s m #[Value.ref b] below meth c (lw_Z below #[Value.ref b] s) s.heap.size ad D cy 204 c9 s9 j' ls' (some (Value.int 1)).toList M' := by
    intro j' ls' c9 s9 hs h1 h2 H locs cls hl hA
    have h0 : am_sz am_M0 = 0 := rfl
    have h00 : am_M0.1.length = 0 := rfl
    obtain ⟨e9, hc, hs⟩ := Option.bind_eq_some_iff.mp hs
    obtain ⟨hd, hck⟩ := am_fact (am_lt C) hc
    obtain ⟨-, hi⟩ := am_ret_st hs
    obtain ⟨i9, p0, r1, r2, r3⟩ := e9
    simp only at hi
    have hi9 : i9 = .ireturn := by
      rcases hi with rfl | rfl | rfl | rfl
      · rfl
      · simp only [am_ck, Bool.and_eq_true, decide_eq_true_eq] at hck
        exact absurd hck.2 (by decide)
      · simp only [am_ck, Bool.and_eq_true] at hck
        exact absurd hck.2 (by decide)
      · simp only [am_ck, Bool.and_eq_true, decide_eq_true_eq] at hck
        exact absurd hck.2 (by decide)
    subst hi9
    refine va_forget hA.2.2.2.2.2 (W.widen (k := 600000) (n := 7302250) (by omega) (by omega) ?_)
    exact lw_ret C0.1 C0.2.1 C0.2.2.1 C0.2.2.2.2.2.2.2.2.1 hd
  have h := am_sound l s.heap.size ad D cy (L, xs) n 30 204 0 _ [] am_M0 _ M' hex (by omega) p e room_1 s m #[Value.ref b] below meth c (lw_Z below #[Value.ref b] s) 0 0 C ⟨by decide, by decide⟩ ⟨by show 0 + (M'.1.length - 0) ≤ 600000; omega, by show 0 + (am_sz M' - 0) ≤ 7302250; omega⟩ hret
  have hent : am_ent 4 [.ref 1000050] = [.ref 1000050, .retAddr 0, .retAddr 0, .retAddr 0] := rfl
  have hl := am_ent_lr (b := s.heap.size) (ad := ad) (n := 4) (vs := [.ref 1000050]) rfl
  rw [hent] at hl
  have h2 := h s.heap [] _ hl ⟨fun k9 q9 hk9 => (by cases hk9), rfl, ⟨rfl, by decide, fun a k n z => (by cases z), fun a k n z => (by cases z)⟩, va_S.rf⟩
  rw [am_pc0 204 (by omega)] at h2
  rw [lg_entry_eq]
  have hcv : ([.ref 1000050] : List Value).map (am_cv s.heap.size ad) = [.ref b] := by
    show [Value.ref (ad 50)] = _
    rw [hb5]
  rw [hcv] at h2
  exact h2
end
section
/-! ===== the small machine: makings; a memory by another name ===== -/
section AW3
variable {X : Nat × (Nat → Int32)} {d mid j : Nat} {ls st : List Value} {M : am_M} {Q : Option Value → am_M → Prop}
variable {p r1 r2 r3 ix : Nat} {x y : Int32} {a b : Nat}
variable {sh sh' : List (Nat × Nat)} {mr mr' : List (List (Option Nat))} {mi : Nat → Nat → Int32} {ml : Nat → Nat → Int64}
theorem am_norm (h1 : sh = sh') (h2 : mr = mr') (k : am_wp X d mid j ls st (sh', mr', mi, ml) Q) : am_wp X d mid j ls st (sh, mr, mi, ml) Q := by
  subst h1
  subst h2
  exact k
theorem wi_new {q n : Nat} {ts : List Nat} (hc : am_cd mid j = some (.new ix, p, r1, r2, r3)) (hts : am_ftT[r1]? = some ts) (hq : sh.length = q) (hn : ts.length = n) (k : am_wp X d mid (j + 1) ls (.ref q :: st) (sh ++ [(r1, n)], mr ++ [ts.map (fun _ => none)], u0 mi q 0, u0 ml q 0) Q) : am_wp X d mid j ls st (sh, mr, mi, ml) Q := am_wp_next hc (by subst hq; subst hn; simp only [am_step, am_new, hts, am_nx]) k
theorem wi_newarray {q n t : Nat} {ty : ArrayType} (hc : am_cd mid j = some (.newarray ty, p, r1, r2, r3)) (h0 : 0 ≤ x ∧ x.toNatClampNeg ≤ 65536 ∧ am_ak ty ≠ 999) (ht : am_ak ty = t) (hn : x.toNatClampNeg = n) (hq : sh.length = q) (k : am_wp X d mid (j + 1) ls (.ref q :: st) (sh ++ [(t, n)], mr ++ [[]], u0 mi q 0, u0 ml q 0) Q) : am_wp X d mid j ls (.int x :: st) (sh, mr, mi, ml) Q := am_wp_next hc (by subst hq; subst hn; subst ht; simp only [am_step, am_newa, am_nx]; rw [if_pos h0]) k
theorem wi_anewarray {q n : Nat} (hc : am_cd mid j = some (.anewarray ix, p, 8, r2, r3)) (h0 : 0 ≤ x ∧ x.toNatClampNeg ≤ 65536) (hn : x.toNatClampNeg = n) (hq : sh.length = q) (k : am_wp X d mid (j + 1) ls (.ref q :: st) (sh ++ [(104, n)], mr ++ [List.replicate n none], u0 mi q 0, u0 ml q 0) Q) : am_wp X d mid j ls (.int x :: st) (sh, mr, mi, ml) Q := am_wp_next hc (by subst hq; subst hn; simp only [am_step, am_anew, am_nx]; rw [if_pos ⟨h0.1, h0.2, trivial⟩]) k
theorem wi_mna {q n m : Nat} {dm : Nat} (hc : am_cd mid j = some (.multianewarray ix dm, p, r1, r2, r3)) (h0 : 0 ≤ y ∧ y.toNatClampNeg ≤ 4096 ∧ 0 ≤ x ∧ x.toNatClampNeg ≤ 4096) (hn : y.toNatClampNeg = n) (hm : x.toNatClampNeg = m) (hq : sh.length = q) (k : am_wp X d mid (j + 1) ls (.ref q :: st) (sh ++ (105, n) :: List.replicate n (100, m), mr ++ ((List.range n).map (fun i => some (q + 1 + i))) :: List.replicate n [], (fun q' i => if q ≤ q' then 0 else mi q' i), (fun q' i => if q ≤ q' then 0 else ml q' i)) Q) : am_wp X d mid j ls (.int x :: .int y :: st) (sh, mr, mi, ml) Q := am_wp_next hc (by subst hq; subst hn; subst hm; simp only [am_step, am_mna, am_nx]; rw [if_pos h0]) k
theorem wi_aastore {n q : Nat} (hc : am_cd mid j = some (.aastore, p, r1, r2, r3)) (ha : am_ln (sh, mr, mi, ml) a 104 = some n) (hi : am_ix x n = true) (hq : x.toNatClampNeg = q) (hk : am_kd (sh, mr, mi, ml) b = 8 ∧ b < 1000000 ∧ q < (mr[a]?.getD []).length) (k : am_wp X d mid (j + 1) ls st (sh, am_wr mr a q (some b), mi, ml) Q) : am_wp X d mid j ls (.ref b :: .int x :: .ref a :: st) (sh, mr, mi, ml) Q := am_wp_next hc (by
  subst hq
  simp only [am_step, am_aast, ha]
  rw [if_pos ⟨hi, hk⟩]
  rfl) k
theorem wi_brT {c : ClassFile.Cond} {z : Int} (hc : am_cd mid j = some (.if_icmp c z, p, r1, r2, r3)) (h : am_cm c x y = true) (k : am_wp X d mid r1 ls st M Q) : am_wp X d mid j ls (.int y :: .int x :: st) M Q := wi_icmp hc (fun _ => k) (fun h2 => by rw [h] at h2; cases h2)
theorem wi_brF {c : ClassFile.Cond} {z : Int} (hc : am_cd mid j = some (.if_icmp c z, p, r1, r2, r3)) (h : am_cm c x y = false) (k : am_wp X d mid (j + 1) ls st M Q) : am_wp X d mid j ls (.int y :: .int x :: st) M Q := wi_icmp hc (fun h2 => by rw [h] at h2; cases h2) (fun _ => k)
end AW3
end
section
/-! ===== the strips of the class ===== -/
def cutF (n t : Int32) : Int32 := if 0 < (if t < n then t else n) then (if t < n then t else n) else 0
def wnF (n a b : Int32) : Int32 := if n < a then 0 else if b < n then 0 else 1
theorem u2_rd {α : Type} {f : Nat → Nat → α} {a k i : Nat} {v : α} : u2 f a k v a i = if i = k then v else f a i := by rw [u2_at]
/-- six numbers of a strip, laid at a place -/
def upT (mi : Nat → Nat → Int32) (a : Nat) (f s t g h w : Int32) : Nat → Nat → Int32 := fun q k => if q = a then (if k = 0 then f else if k = 1 then s else if k = 2 then t else if k = 3 then g else if k = 4 then h else if k = 5 then w else mi q k) else mi q k
theorem upT_rd {mi : Nat → Nat → Int32} {a : Nat} {f s t g h w : Int32} {k : Nat} : upT mi a f s t g h w a k = if k = 0 then f else if k = 1 then s else if k = 2 then t else if k = 3 then g else if k = 4 then h else if k = 5 then w else mi a k := if_pos rfl
theorem upT_ne {mi : Nat → Nat → Int32} {a q : Nat} {f s t g h w : Int32} (hq : q ≠ a) : upT mi a f s t g h w q = mi q := funext (fun k => if_neg hq)
theorem upT_eq {mi' mi : Nat → Nat → Int32} {a : Nat} {f s t g h w : Int32} (h0 : mi' a 0 = f) (h1 : mi' a 1 = s) (h2 : mi' a 2 = t) (h3 : mi' a 3 = g) (h4 : mi' a 4 = h) (h5 : mi' a 5 = w) (hk : ∀ k, k ≠ 0 → k ≠ 1 → k ≠ 2 → k ≠ 3 → k ≠ 4 → k ≠ 5 → mi' a k = mi a k) (hq : ∀ q, q ≠ a → mi' q = mi q) : mi' = upT mi a f s t g h w := by
  funext q k
  by_cases e : q = a
  · subst e
    rw [upT_rd]
    by_cases e0 : k = 0
    · subst e0; rw [if_pos rfl]; exact h0
    by_cases e1 : k = 1
    · subst e1; exact h1
    by_cases e2 : k = 2
    · subst e2; exact h2
    by_cases e3 : k = 3
    · subst e3; exact h3
    by_cases e4 : k = 4
    · subst e4; exact h4
    by_cases e5 : k = 5
    · subst e5; exact h5
    rw [if_neg e0, if_neg e1, if_neg e2, if_neg e3, if_neg e4, if_neg e5]
    exact hk k e0 e1 e2 e3 e4 e5
  · rw [upT_ne e, hq q e]
section TURF
variable {X : Nat × (Nat → Int32)} {d : Nat} {M : am_M} {Q : Option Value → am_M → Prop} {sh : List (Nat × Nat)} {mr : List (List (Option Nat))} {mi : Nat → Nat → Int32} {ml : Nat → Nat → Int64} {a : Nat} {v : Option Value}
theorem am_mem {mi1 mi2 : Nat → Nat → Int32} (hQ : Q v (sh, mr, mi2, ml)) (e : mi1 = mi2) : Q v (sh, mr, mi1, ml) := e ▸ hQ
section DIA
variable {X : Nat × (Nat → Int32)} {d mid j jj : Nat} {ls st : List Value} {M : am_M} {Q : Option Value → am_M → Prop} {p r1 r2 r3 : Nat} {x y A B : Int32} {z : Int}
theorem wi_icmp_eq_dia (hc : am_cd mid j = some (.if_icmp .eq z, p, r1, r2, r3)) (hT : am_wp X d mid jj ls (.int A :: st) M Q → am_wp X d mid r1 ls st M Q) (hF : am_wp X d mid jj ls (.int B :: st) M Q → am_wp X d mid (j + 1) ls st M Q) (k : am_wp X d mid jj ls (.int (if x = y then A else B) :: st) M Q) : am_wp X d mid j ls (.int y :: .int x :: st) M Q := wi_icmp_eq hc (fun h9 => hT (by rw [if_pos h9] at k; exact k)) (fun h9 => hF (by rw [if_neg h9] at k; exact k))
theorem wi_if_eq_dia (hc : am_cd mid j = some (.ifCond .eq z, p, r1, r2, r3)) (hT : am_wp X d mid jj ls (.int A :: st) M Q → am_wp X d mid r1 ls st M Q) (hF : am_wp X d mid jj ls (.int B :: st) M Q → am_wp X d mid (j + 1) ls st M Q) (k : am_wp X d mid jj ls (.int (if x = 0 then A else B) :: st) M Q) : am_wp X d mid j ls (.int x :: st) M Q := wi_if_eq hc (fun h9 => hT (by rw [if_pos h9] at k; exact k)) (fun h9 => hF (by rw [if_neg h9] at k; exact k))
theorem wi_icmp_ne_dia (hc : am_cd mid j = some (.if_icmp .ne z, p, r1, r2, r3)) (hT : am_wp X d mid jj ls (.int A :: st) M Q → am_wp X d mid r1 ls st M Q) (hF : am_wp X d mid jj ls (.int B :: st) M Q → am_wp X d mid (j + 1) ls st M Q) (k : am_wp X d mid jj ls (.int (if ¬ x = y then A else B) :: st) M Q) : am_wp X d mid j ls (.int y :: .int x :: st) M Q := wi_icmp_ne hc (fun h9 => hT (by rw [if_pos h9] at k; exact k)) (fun h9 => hF (by rw [if_neg h9] at k; exact k))
theorem wi_if_ne_dia (hc : am_cd mid j = some (.ifCond .ne z, p, r1, r2, r3)) (hT : am_wp X d mid jj ls (.int A :: st) M Q → am_wp X d mid r1 ls st M Q) (hF : am_wp X d mid jj ls (.int B :: st) M Q → am_wp X d mid (j + 1) ls st M Q) (k : am_wp X d mid jj ls (.int (if ¬ x = 0 then A else B) :: st) M Q) : am_wp X d mid j ls (.int x :: st) M Q := wi_if_ne hc (fun h9 => hT (by rw [if_pos h9] at k; exact k)) (fun h9 => hF (by rw [if_neg h9] at k; exact k))
theorem wi_icmp_lt_dia (hc : am_cd mid j = some (.if_icmp .lt z, p, r1, r2, r3)) (hT : am_wp X d mid jj ls (.int A :: st) M Q → am_wp X d mid r1 ls st M Q) (hF : am_wp X d mid jj ls (.int B :: st) M Q → am_wp X d mid (j + 1) ls st M Q) (k : am_wp X d mid jj ls (.int (if x < y then A else B) :: st) M Q) : am_wp X d mid j ls (.int y :: .int x :: st) M Q := wi_icmp_lt hc (fun h9 => hT (by rw [if_pos h9] at k; exact k)) (fun h9 => hF (by rw [if_neg h9] at k; exact k))
theorem wi_if_lt_dia (hc : am_cd mid j = some (.ifCond .lt z, p, r1, r2, r3)) (hT : am_wp X d mid jj ls (.int A :: st) M Q → am_wp X d mid r1 ls st M Q) (hF : am_wp X d mid jj ls (.int B :: st) M Q → am_wp X d mid (j + 1) ls st M Q) (k : am_wp X d mid jj ls (.int (if x < 0 then A else B) :: st) M Q) : am_wp X d mid j ls (.int x :: st) M Q := wi_if_lt hc (fun h9 => hT (by rw [if_pos h9] at k; exact k)) (fun h9 => hF (by rw [if_neg h9] at k; exact k))
theorem wi_icmp_ge_dia (hc : am_cd mid j = some (.if_icmp .ge z, p, r1, r2, r3)) (hT : am_wp X d mid jj ls (.int A :: st) M Q → am_wp X d mid r1 ls st M Q) (hF : am_wp X d mid jj ls (.int B :: st) M Q → am_wp X d mid (j + 1) ls st M Q) (k : am_wp X d mid jj ls (.int (if y ≤ x then A else B) :: st) M Q) : am_wp X d mid j ls (.int y :: .int x :: st) M Q := wi_icmp_ge hc (fun h9 => hT (by rw [if_pos h9] at k; exact k)) (fun h9 => hF (by rw [if_neg h9] at k; exact k))
theorem wi_if_ge_dia (hc : am_cd mid j = some (.ifCond .ge z, p, r1, r2, r3)) (hT : am_wp X d mid jj ls (.int A :: st) M Q → am_wp X d mid r1 ls st M Q) (hF : am_wp X d mid jj ls (.int B :: st) M Q → am_wp X d mid (j + 1) ls st M Q) (k : am_wp X d mid jj ls (.int (if 0 ≤ x then A else B) :: st) M Q) : am_wp X d mid j ls (.int x :: st) M Q := wi_if_ge hc (fun h9 => hT (by rw [if_pos h9] at k; exact k)) (fun h9 => hF (by rw [if_neg h9] at k; exact k))
theorem wi_icmp_gt_dia (hc : am_cd mid j = some (.if_icmp .gt z, p, r1, r2, r3)) (hT : am_wp X d mid jj ls (.int A :: st) M Q → am_wp X d mid r1 ls st M Q) (hF : am_wp X d mid jj ls (.int B :: st) M Q → am_wp X d mid (j + 1) ls st M Q) (k : am_wp X d mid jj ls (.int (if y < x then A else B) :: st) M Q) : am_wp X d mid j ls (.int y :: .int x :: st) M Q := wi_icmp_gt hc (fun h9 => hT (by rw [if_pos h9] at k; exact k)) (fun h9 => hF (by rw [if_neg h9] at k; exact k))
theorem wi_if_gt_dia (hc : am_cd mid j = some (.ifCond .gt z, p, r1, r2, r3)) (hT : am_wp X d mid jj ls (.int A :: st) M Q → am_wp X d mid r1 ls st M Q) (hF : am_wp X d mid jj ls (.int B :: st) M Q → am_wp X d mid (j + 1) ls st M Q) (k : am_wp X d mid jj ls (.int (if 0 < x then A else B) :: st) M Q) : am_wp X d mid j ls (.int x :: st) M Q := wi_if_gt hc (fun h9 => hT (by rw [if_pos h9] at k; exact k)) (fun h9 => hF (by rw [if_neg h9] at k; exact k))
theorem wi_icmp_le_dia (hc : am_cd mid j = some (.if_icmp .le z, p, r1, r2, r3)) (hT : am_wp X d mid jj ls (.int A :: st) M Q → am_wp X d mid r1 ls st M Q) (hF : am_wp X d mid jj ls (.int B :: st) M Q → am_wp X d mid (j + 1) ls st M Q) (k : am_wp X d mid jj ls (.int (if x ≤ y then A else B) :: st) M Q) : am_wp X d mid j ls (.int y :: .int x :: st) M Q := wi_icmp_le hc (fun h9 => hT (by rw [if_pos h9] at k; exact k)) (fun h9 => hF (by rw [if_neg h9] at k; exact k))
theorem wi_if_le_dia (hc : am_cd mid j = some (.ifCond .le z, p, r1, r2, r3)) (hT : am_wp X d mid jj ls (.int A :: st) M Q → am_wp X d mid r1 ls st M Q) (hF : am_wp X d mid jj ls (.int B :: st) M Q → am_wp X d mid (j + 1) ls st M Q) (k : am_wp X d mid jj ls (.int (if x ≤ 0 then A else B) :: st) M Q) : am_wp X d mid j ls (.int x :: st) M Q := wi_if_le hc (fun h9 => hT (by rw [if_pos h9] at k; exact k)) (fun h9 => hF (by rw [if_neg h9] at k; exact k))
end DIA
theorem c_within {n t u : Int32} (hQ : Q (some (.int (wnF n t u))) M) : am_wp X d 139 0 [.int n, .int t, .int u] [] M Q := by
  refine wi_iload_n rfl rfl ?_
  refine wi_iload_n rfl rfl ?_
  refine wi_icmp_lt rfl (fun g1 => ?_) (fun g1 => ?_)
  · refine wi_iconst (x := 0) rfl rfl ?_
    refine wi_iret rfl (by decide) ?_
    simpa [wnF, g1] using hQ
  · refine wi_iload_n rfl rfl ?_
    refine wi_iload_n rfl rfl ?_
    refine wi_icmp_gt rfl (fun g2 => ?_) (fun g2 => ?_)
    · refine wi_iconst (x := 0) rfl rfl ?_
      refine wi_iret rfl (by decide) ?_
      simpa [wnF, g1, g2] using hQ
    · refine wi_iconst (x := 1) rfl rfl ?_
      refine wi_goto rfl ?_
      refine wi_iret rfl (by decide) ?_
      simpa [wnF, g1, g2] using hQ
theorem c_cut {n t : Int32} (hQ : Q (some (.int (cutF n t))) M) : am_wp X d 140 0 [.int n, .int t] [] M Q := by
  refine wi_iconst (x := 0) rfl rfl ?_
  refine wi_iload_n rfl rfl ?_
  refine wi_iload_n rfl rfl ?_
  refine wi_min rfl rfl ?_
  refine wi_max rfl rfl ?_
  refine wi_iret rfl (Or.inl rfl) ?_
  exact hQ
def bncF (f g h w : Int32) : Int32 :=
  if 0 < (if g ≤ 10 then (if f ≤ 50 then h - w / 4 else h - w / 4 - (f - 50) / 2) else (if f ≤ 50 then h - w / 4 else h - w / 4 - (f - 50) / 2) - (g - 10) / 4) then (if g ≤ 10 then (if f ≤ 50 then h - w / 4 else h - w / 4 - (f - 50) / 2) else (if f ≤ 50 then h - w / 4 else h - w / 4 - (f - 50) / 2) - (g - 10) / 4) else 0
theorem c_bounce (hk : am_kd (sh, mr, mi, ml) a = 8) (hQ : Q (some (.int (bncF (mi a 0) (mi a 3) (mi a 4) (mi a 5)))) (sh, mr, mi, ml)) : am_wp X d 93 0 [.ref a, .retAddr 0] [] (sh, mr, mi, ml) Q := by
  refine wi_aload_n rfl rfl ?_
  refine wi_getI rfl hk ?_
  refine wi_aload_n rfl rfl ?_
  refine wi_getI rfl hk ?_
  refine wi_iconst (x := 4) rfl rfl ?_
  refine wi_idiv rfl (by decide) ?_
  refine wi_isub rfl ?_
  refine wi_istore_n rfl (Nat.le_of_ble_eq_true rfl) rfl rfl ?_
  refine wi_aload_n rfl rfl ?_
  refine wi_getI rfl hk ?_
  refine wi_bipush (x := 50) rfl rfl ?_
  refine wi_icmp_le rfl (fun g1 => ?_) (fun g1 => ?_)
  · refine wi_aload_n rfl rfl ?_
    refine wi_getI rfl hk ?_
    refine wi_bipush (x := 10) rfl rfl ?_
    refine wi_icmp_le rfl (fun g2 => ?_) (fun g2 => ?_)
    · refine wi_iconst (x := 0) rfl rfl ?_
      refine wi_iload_n rfl rfl ?_
      refine wi_max rfl rfl ?_
      refine wi_iret rfl (Or.inl rfl) ?_
      simpa [bncF, g1, g2] using hQ
    · refine wi_iload_n rfl rfl ?_
      refine wi_aload_n rfl rfl ?_
      refine wi_getI rfl hk ?_
      refine wi_bipush (x := 10) rfl rfl ?_
      refine wi_isub rfl ?_
      refine wi_iconst (x := 4) rfl rfl ?_
      refine wi_idiv rfl (by decide) ?_
      refine wi_isub rfl ?_
      refine wi_istore_n rfl (Nat.le_of_ble_eq_true rfl) rfl rfl ?_
      refine wi_iconst (x := 0) rfl rfl ?_
      refine wi_iload_n rfl rfl ?_
      refine wi_max rfl rfl ?_
      refine wi_iret rfl (Or.inl rfl) ?_
      simpa [bncF, g1, g2] using hQ
  · refine wi_iload_n rfl rfl ?_
    refine wi_aload_n rfl rfl ?_
    refine wi_getI rfl hk ?_
    refine wi_bipush (x := 50) rfl rfl ?_
    refine wi_isub rfl ?_
    refine wi_iconst (x := 2) rfl rfl ?_
    refine wi_idiv rfl (by decide) ?_
    refine wi_isub rfl ?_
    refine wi_istore_n rfl (Nat.le_of_ble_eq_true rfl) rfl rfl ?_
    refine wi_aload_n rfl rfl ?_
    refine wi_getI rfl hk ?_
    refine wi_bipush (x := 10) rfl rfl ?_
    refine wi_icmp_le rfl (fun g3 => ?_) (fun g3 => ?_)
    · refine wi_iconst (x := 0) rfl rfl ?_
      refine wi_iload_n rfl rfl ?_
      refine wi_max rfl rfl ?_
      refine wi_iret rfl (Or.inl rfl) ?_
      simpa [bncF, g1, g3] using hQ
    · refine wi_iload_n rfl rfl ?_
      refine wi_aload_n rfl rfl ?_
      refine wi_getI rfl hk ?_
      refine wi_bipush (x := 10) rfl rfl ?_
      refine wi_isub rfl ?_
      refine wi_iconst (x := 4) rfl rfl ?_
      refine wi_idiv rfl (by decide) ?_
      refine wi_isub rfl ?_
      refine wi_istore_n rfl (Nat.le_of_ble_eq_true rfl) rfl rfl ?_
      refine wi_iconst (x := 0) rfl rfl ?_
      refine wi_iload_n rfl rfl ?_
      refine wi_max rfl rfl ?_
      refine wi_iret rfl (Or.inl rfl) ?_
      simpa [bncF, g1, g3] using hQ
def soakF (f rain wat : Int32) : Int32 := cutF (f + rain + (if wat = 0 then 0 else 8)) 100
theorem c_soak {r t : Int32} (hk : am_kd (sh, mr, mi, ml) a = 8) (hQ : Q none (sh, mr, upT mi a (soakF (mi a 0) r t) (mi a 1) (mi a 2) (mi a 3) (mi a 4) (mi a 5), ml)) : am_wp X (d + 1) 95 0 [.ref a, .int r, .int t] [] (sh, mr, mi, ml) Q := by
  refine wi_aload_n rfl rfl ?_
  refine wi_aload_n rfl rfl ?_
  refine wi_getI rfl hk ?_
  refine wi_iload_n rfl rfl ?_
  refine wi_iadd rfl ?_
  refine wi_iload_n rfl rfl ?_
  refine wi_if_eq rfl (fun g1 => ?_) (fun g1 => ?_)
  · try simp [u2_rd, -Int32.not_le, -Int32.not_lt] at g1
    refine wi_iconst (x := 0) rfl rfl ?_
    refine wi_iadd rfl ?_
    refine wi_bipush (x := 100) rfl rfl ?_
    refine wi_callS2 rfl (by decide) (by decide) rfl rfl rfl (c_cut ?_)
    refine wi_putI rfl hk ?_
    refine wi_ret rfl ?_
    exact am_mem hQ (upT_eq (by simp [u2_rd, soakF, g1]) (by simp [u2_rd, soakF, g1]) (by simp [u2_rd, soakF, g1]) (by simp [u2_rd, soakF, g1]) (by simp [u2_rd, soakF, g1]) (by simp [u2_rd, soakF, g1]) (fun k e0 e1 e2 e3 e4 e5 => by simp [u2_rd, e0, e1, e2, e3, e4, e5]) (fun q9 hq => by simp [u2_ne hq]))
  · try simp [u2_rd, -Int32.not_le, -Int32.not_lt] at g1
    refine wi_bipush (x := 8) rfl rfl ?_
    refine wi_goto rfl ?_
    refine wi_iadd rfl ?_
    refine wi_bipush (x := 100) rfl rfl ?_
    refine wi_callS2 rfl (by decide) (by decide) rfl rfl rfl (c_cut ?_)
    refine wi_putI rfl hk ?_
    refine wi_ret rfl ?_
    exact am_mem hQ (upT_eq (by simp [u2_rd, soakF, g1]) (by simp [u2_rd, soakF, g1]) (by simp [u2_rd, soakF, g1]) (by simp [u2_rd, soakF, g1]) (by simp [u2_rd, soakF, g1]) (by simp [u2_rd, soakF, g1]) (fun k e0 e1 e2 e3 e4 e5 => by simp [u2_rd, e0, e1, e2, e3, e4, e5]) (fun q9 hq => by simp [u2_ne hq]))
def seep1 (f s : Int32) : Int32 × Int32 := if f ≤ s then (f, s) else (cutF (f - (f - s) / 4) 100, cutF (s + (f - s) / 4) 100)
def seepF (f s t : Int32) : Int32 × Int32 × Int32 :=
  ((seep1 f s).1, (seep1 (seep1 f s).2 t).1, cutF ((seep1 (seep1 f s).2 t).2 - (seep1 (seep1 f s).2 t).2 / 10) 100)
theorem c_seep (hk : am_kd (sh, mr, mi, ml) a = 8) (hQ : Q none (sh, mr, upT mi a (seepF (mi a 0) (mi a 1) (mi a 2)).1 (seepF (mi a 0) (mi a 1) (mi a 2)).2.1 (seepF (mi a 0) (mi a 1) (mi a 2)).2.2 (mi a 3) (mi a 4) (mi a 5), ml)) : am_wp X (d + 1) 96 0 [.ref a, .retAddr 0] [] (sh, mr, mi, ml) Q := by
  refine wi_aload_n rfl rfl ?_
  refine wi_getI rfl hk ?_
  refine wi_aload_n rfl rfl ?_
  refine wi_getI rfl hk ?_
  refine wi_icmp_le rfl (fun g1 => ?_) (fun g1 => ?_)
  · try simp [u2_rd, -Int32.not_le, -Int32.not_lt] at g1
    refine wi_aload_n rfl rfl ?_
    refine wi_getI rfl hk ?_
    refine wi_aload_n rfl rfl ?_
    refine wi_getI rfl hk ?_
    refine wi_icmp_le rfl (fun g2 => ?_) (fun g2 => ?_)
    · try simp [u2_rd, -Int32.not_le, -Int32.not_lt] at g2
      refine wi_aload_n rfl rfl ?_
      refine wi_aload_n rfl rfl ?_
      refine wi_getI rfl hk ?_
      refine wi_aload_n rfl rfl ?_
      refine wi_getI rfl hk ?_
      refine wi_bipush (x := 10) rfl rfl ?_
      refine wi_idiv rfl (by decide) ?_
      refine wi_isub rfl ?_
      refine wi_bipush (x := 100) rfl rfl ?_
      refine wi_callS2 rfl (by decide) (by decide) rfl rfl rfl (c_cut ?_)
      refine wi_putI rfl hk ?_
      refine wi_ret rfl ?_
      exact am_mem hQ (upT_eq (by simp [u2_rd, seepF, seep1, g1, g2]) (by simp [u2_rd, seepF, seep1, g1, g2]) (by simp [u2_rd, seepF, seep1, g1, g2]) (by simp [u2_rd, seepF, seep1, g1, g2]) (by simp [u2_rd, seepF, seep1, g1, g2]) (by simp [u2_rd, seepF, seep1, g1, g2]) (fun k e0 e1 e2 e3 e4 e5 => by simp [u2_rd, e0, e1, e2, e3, e4, e5]) (fun q9 hq => by simp [u2_ne hq]))
    · try simp [u2_rd, -Int32.not_le, -Int32.not_lt] at g2
      refine wi_aload_n rfl rfl ?_
      refine wi_getI rfl hk ?_
      refine wi_aload_n rfl rfl ?_
      refine wi_getI rfl hk ?_
      refine wi_isub rfl ?_
      refine wi_iconst (x := 4) rfl rfl ?_
      refine wi_idiv rfl (by decide) ?_
      refine wi_istore_n rfl (Nat.le_of_ble_eq_true rfl) rfl rfl ?_
      refine wi_aload_n rfl rfl ?_
      refine wi_aload_n rfl rfl ?_
      refine wi_getI rfl hk ?_
      refine wi_iload_n rfl rfl ?_
      refine wi_isub rfl ?_
      refine wi_bipush (x := 100) rfl rfl ?_
      refine wi_callS2 rfl (by decide) (by decide) rfl rfl rfl (c_cut ?_)
      refine wi_putI rfl hk ?_
      refine wi_aload_n rfl rfl ?_
      refine wi_aload_n rfl rfl ?_
      refine wi_getI rfl hk ?_
      refine wi_iload_n rfl rfl ?_
      refine wi_iadd rfl ?_
      refine wi_bipush (x := 100) rfl rfl ?_
      refine wi_callS2 rfl (by decide) (by decide) rfl rfl rfl (c_cut ?_)
      refine wi_putI rfl hk ?_
      refine wi_aload_n rfl rfl ?_
      refine wi_aload_n rfl rfl ?_
      refine wi_getI rfl hk ?_
      refine wi_aload_n rfl rfl ?_
      refine wi_getI rfl hk ?_
      refine wi_bipush (x := 10) rfl rfl ?_
      refine wi_idiv rfl (by decide) ?_
      refine wi_isub rfl ?_
      refine wi_bipush (x := 100) rfl rfl ?_
      refine wi_callS2 rfl (by decide) (by decide) rfl rfl rfl (c_cut ?_)
      refine wi_putI rfl hk ?_
      refine wi_ret rfl ?_
      exact am_mem hQ (upT_eq (by simp [u2_rd, seepF, seep1, g1, g2]) (by simp [u2_rd, seepF, seep1, g1, g2]) (by simp [u2_rd, seepF, seep1, g1, g2]) (by simp [u2_rd, seepF, seep1, g1, g2]) (by simp [u2_rd, seepF, seep1, g1, g2]) (by simp [u2_rd, seepF, seep1, g1, g2]) (fun k e0 e1 e2 e3 e4 e5 => by simp [u2_rd, e0, e1, e2, e3, e4, e5]) (fun q9 hq => by simp [u2_ne hq]))
  · try simp [u2_rd, -Int32.not_le, -Int32.not_lt] at g1
    refine wi_aload_n rfl rfl ?_
    refine wi_getI rfl hk ?_
    refine wi_aload_n rfl rfl ?_
    refine wi_getI rfl hk ?_
    refine wi_isub rfl ?_
    refine wi_iconst (x := 4) rfl rfl ?_
    refine wi_idiv rfl (by decide) ?_
    refine wi_istore_n rfl (Nat.le_of_ble_eq_true rfl) rfl rfl ?_
    refine wi_aload_n rfl rfl ?_
    refine wi_aload_n rfl rfl ?_
    refine wi_getI rfl hk ?_
    refine wi_iload_n rfl rfl ?_
    refine wi_isub rfl ?_
    refine wi_bipush (x := 100) rfl rfl ?_
    refine wi_callS2 rfl (by decide) (by decide) rfl rfl rfl (c_cut ?_)
    refine wi_putI rfl hk ?_
    refine wi_aload_n rfl rfl ?_
    refine wi_aload_n rfl rfl ?_
    refine wi_getI rfl hk ?_
    refine wi_iload_n rfl rfl ?_
    refine wi_iadd rfl ?_
    refine wi_bipush (x := 100) rfl rfl ?_
    refine wi_callS2 rfl (by decide) (by decide) rfl rfl rfl (c_cut ?_)
    refine wi_putI rfl hk ?_
    refine wi_aload_n rfl rfl ?_
    refine wi_getI rfl hk ?_
    refine wi_aload_n rfl rfl ?_
    refine wi_getI rfl hk ?_
    refine wi_icmp_le rfl (fun g3 => ?_) (fun g3 => ?_)
    · try simp [u2_rd, -Int32.not_le, -Int32.not_lt] at g3
      refine wi_aload_n rfl rfl ?_
      refine wi_aload_n rfl rfl ?_
      refine wi_getI rfl hk ?_
      refine wi_aload_n rfl rfl ?_
      refine wi_getI rfl hk ?_
      refine wi_bipush (x := 10) rfl rfl ?_
      refine wi_idiv rfl (by decide) ?_
      refine wi_isub rfl ?_
      refine wi_bipush (x := 100) rfl rfl ?_
      refine wi_callS2 rfl (by decide) (by decide) rfl rfl rfl (c_cut ?_)
      refine wi_putI rfl hk ?_
      refine wi_ret rfl ?_
      exact am_mem hQ (upT_eq (by simp [u2_rd, seepF, seep1, g1, g3]) (by simp [u2_rd, seepF, seep1, g1, g3]) (by simp [u2_rd, seepF, seep1, g1, g3]) (by simp [u2_rd, seepF, seep1, g1, g3]) (by simp [u2_rd, seepF, seep1, g1, g3]) (by simp [u2_rd, seepF, seep1, g1, g3]) (fun k e0 e1 e2 e3 e4 e5 => by simp [u2_rd, e0, e1, e2, e3, e4, e5]) (fun q9 hq => by simp [u2_ne hq]))
    · try simp [u2_rd, -Int32.not_le, -Int32.not_lt] at g3
      refine wi_aload_n rfl rfl ?_
      refine wi_getI rfl hk ?_
      refine wi_aload_n rfl rfl ?_
      refine wi_getI rfl hk ?_
      refine wi_isub rfl ?_
      refine wi_iconst (x := 4) rfl rfl ?_
      refine wi_idiv rfl (by decide) ?_
      refine wi_istore_n rfl (Nat.le_of_ble_eq_true rfl) rfl rfl ?_
      refine wi_aload_n rfl rfl ?_
      refine wi_aload_n rfl rfl ?_
      refine wi_getI rfl hk ?_
      refine wi_iload_n rfl rfl ?_
      refine wi_isub rfl ?_
      refine wi_bipush (x := 100) rfl rfl ?_
      refine wi_callS2 rfl (by decide) (by decide) rfl rfl rfl (c_cut ?_)
      refine wi_putI rfl hk ?_
      refine wi_aload_n rfl rfl ?_
      refine wi_aload_n rfl rfl ?_
      refine wi_getI rfl hk ?_
      refine wi_iload_n rfl rfl ?_
      refine wi_iadd rfl ?_
      refine wi_bipush (x := 100) rfl rfl ?_
      refine wi_callS2 rfl (by decide) (by decide) rfl rfl rfl (c_cut ?_)
      refine wi_putI rfl hk ?_
      refine wi_aload_n rfl rfl ?_
      refine wi_aload_n rfl rfl ?_
      refine wi_getI rfl hk ?_
      refine wi_aload_n rfl rfl ?_
      refine wi_getI rfl hk ?_
      refine wi_bipush (x := 10) rfl rfl ?_
      refine wi_idiv rfl (by decide) ?_
      refine wi_isub rfl ?_
      refine wi_bipush (x := 100) rfl rfl ?_
      refine wi_callS2 rfl (by decide) (by decide) rfl rfl rfl (c_cut ?_)
      refine wi_putI rfl hk ?_
      refine wi_ret rfl ?_
      exact am_mem hQ (upT_eq (by simp [u2_rd, seepF, seep1, g1, g3]) (by simp [u2_rd, seepF, seep1, g1, g3]) (by simp [u2_rd, seepF, seep1, g1, g3]) (by simp [u2_rd, seepF, seep1, g1, g3]) (by simp [u2_rd, seepF, seep1, g1, g3]) (by simp [u2_rd, seepF, seep1, g1, g3]) (fun k e0 e1 e2 e3 e4 e5 => by simp [u2_rd, e0, e1, e2, e3, e4, e5]) (fun q9 hq => by simp [u2_ne hq]))
theorem c_dry {u : Int32} (hk : am_kd (sh, mr, mi, ml) a = 8) (hQ : Q none (sh, mr, upT mi a (cutF ((mi a 0) - u - (mi a 3) / 12) 100) (cutF ((mi a 1) - (mi a 3) / 20) 100) (mi a 2) (mi a 3) (mi a 4) (mi a 5), ml)) : am_wp X (d + 1) 97 0 [.ref a, .int u] [] (sh, mr, mi, ml) Q := by
  refine wi_aload_n rfl rfl ?_
  refine wi_aload_n rfl rfl ?_
  refine wi_getI rfl hk ?_
  refine wi_iload_n rfl rfl ?_
  refine wi_isub rfl ?_
  refine wi_aload_n rfl rfl ?_
  refine wi_getI rfl hk ?_
  refine wi_bipush (x := 12) rfl rfl ?_
  refine wi_idiv rfl (by decide) ?_
  refine wi_isub rfl ?_
  refine wi_bipush (x := 100) rfl rfl ?_
  refine wi_callS2 rfl (by decide) (by decide) rfl rfl rfl (c_cut ?_)
  refine wi_putI rfl hk ?_
  refine wi_aload_n rfl rfl ?_
  refine wi_aload_n rfl rfl ?_
  refine wi_getI rfl hk ?_
  refine wi_aload_n rfl rfl ?_
  refine wi_getI rfl hk ?_
  refine wi_bipush (x := 20) rfl rfl ?_
  refine wi_idiv rfl (by decide) ?_
  refine wi_isub rfl ?_
  refine wi_bipush (x := 100) rfl rfl ?_
  refine wi_callS2 rfl (by decide) (by decide) rfl rfl rfl (c_cut ?_)
  refine wi_putI rfl hk ?_
  refine wi_ret rfl ?_
  exact am_mem hQ (upT_eq (by simp [u2_rd]) (by simp [u2_rd]) (by simp [u2_rd]) (by simp [u2_rd]) (by simp [u2_rd]) (by simp [u2_rd]) (fun k e0 e1 e2 e3 e4 e5 => by simp [u2_rd, e0, e1, e2, e3, e4, e5]) (fun q9 hq => by simp [u2_ne hq]))
def hardF (f s h rol : Int32) : Int32 :=
  let h1 := if rol = 0 then h else if wnF f 25 60 = 0 then (if f ≤ 60 then h else cutF (h - 6) 100) else if 70 < s then (if f ≤ 60 then h else cutF (h - 6) 100) else cutF (h + 1 + (100 - h) / 8) 100
  if f ≤ 70 then h1 else cutF (h1 - 1) 100
def growF (s g w : Int32) : Int32 := if w ≤ 50 then (if wnF s 20 80 = 0 then (if wnF s 10 90 = 0 then cutF (g - 1) 60 else cutF (g + 1) 60) else cutF (g + 2) 60) else g
theorem c_harden {t : Int32} (hk : am_kd (sh, mr, mi, ml) a = 8) (hQ : Q none (sh, mr, upT mi a (mi a 0) (mi a 1) (mi a 2) (mi a 3) (hardF (mi a 0) (mi a 1) (mi a 4) t) (mi a 5), ml)) : am_wp X (d + 1) 98 0 [.ref a, .int t] [] (sh, mr, mi, ml) Q := by
  refine wi_iload_n rfl rfl ?_
  refine wi_if_eq rfl (fun g1 => ?_) (fun g1 => ?_)
  · try simp [u2_rd, -Int32.not_le, -Int32.not_lt] at g1
    refine wi_aload_n rfl rfl ?_
    refine wi_getI rfl hk ?_
    refine wi_bipush (x := 70) rfl rfl ?_
    refine wi_icmp_le rfl (fun g2 => ?_) (fun g2 => ?_)
    · try simp [u2_rd, -Int32.not_le, -Int32.not_lt] at g2
      refine wi_ret rfl ?_
      exact am_mem hQ (upT_eq (by simp [u2_rd, hardF, g1, g2]) (by simp [u2_rd, hardF, g1, g2]) (by simp [u2_rd, hardF, g1, g2]) (by simp [u2_rd, hardF, g1, g2]) (by simp [u2_rd, hardF, g1, g2]) (by simp [u2_rd, hardF, g1, g2]) (fun k e0 e1 e2 e3 e4 e5 => by simp [u2_rd, e0, e1, e2, e3, e4, e5]) (fun q9 hq => by simp [u2_ne hq]))
    · try simp [u2_rd, -Int32.not_le, -Int32.not_lt] at g2
      refine wi_aload_n rfl rfl ?_
      refine wi_aload_n rfl rfl ?_
      refine wi_getI rfl hk ?_
      refine wi_iconst (x := 1) rfl rfl ?_
      refine wi_isub rfl ?_
      refine wi_bipush (x := 100) rfl rfl ?_
      refine wi_callS2 rfl (by decide) (by decide) rfl rfl rfl (c_cut ?_)
      refine wi_putI rfl hk ?_
      refine wi_ret rfl ?_
      exact am_mem hQ (upT_eq (by simp [u2_rd, hardF, g1, g2]) (by simp [u2_rd, hardF, g1, g2]) (by simp [u2_rd, hardF, g1, g2]) (by simp [u2_rd, hardF, g1, g2]) (by simp [u2_rd, hardF, g1, g2]) (by simp [u2_rd, hardF, g1, g2]) (fun k e0 e1 e2 e3 e4 e5 => by simp [u2_rd, e0, e1, e2, e3, e4, e5]) (fun q9 hq => by simp [u2_ne hq]))
  · try simp [u2_rd, -Int32.not_le, -Int32.not_lt] at g1
    refine wi_aload_n rfl rfl ?_
    refine wi_getI rfl hk ?_
    refine wi_bipush (x := 25) rfl rfl ?_
    refine wi_bipush (x := 60) rfl rfl ?_
    refine wi_callS3 rfl (by decide) (by decide) rfl rfl rfl (c_within ?_)
    refine wi_if_eq rfl (fun g3 => ?_) (fun g3 => ?_)
    · try simp [u2_rd, -Int32.not_le, -Int32.not_lt] at g3
      refine wi_aload_n rfl rfl ?_
      refine wi_getI rfl hk ?_
      refine wi_bipush (x := 60) rfl rfl ?_
      refine wi_icmp_le rfl (fun g4 => ?_) (fun g4 => ?_)
      · try simp [u2_rd, -Int32.not_le, -Int32.not_lt] at g4
        refine wi_aload_n rfl rfl ?_
        refine wi_getI rfl hk ?_
        refine wi_bipush (x := 70) rfl rfl ?_
        refine wi_icmp_le rfl (fun g5 => ?_) (fun g5 => ?_)
        · try simp [u2_rd, -Int32.not_le, -Int32.not_lt] at g5
          refine wi_ret rfl ?_
          exact am_mem hQ (upT_eq (by simp [u2_rd, hardF, g1, g3, g4, g5]) (by simp [u2_rd, hardF, g1, g3, g4, g5]) (by simp [u2_rd, hardF, g1, g3, g4, g5]) (by simp [u2_rd, hardF, g1, g3, g4, g5]) (by simp [u2_rd, hardF, g1, g3, g4, g5]) (by simp [u2_rd, hardF, g1, g3, g4, g5]) (fun k e0 e1 e2 e3 e4 e5 => by simp [u2_rd, e0, e1, e2, e3, e4, e5]) (fun q9 hq => by simp [u2_ne hq]))
        · try simp [u2_rd, -Int32.not_le, -Int32.not_lt] at g5
          refine wi_aload_n rfl rfl ?_
          refine wi_aload_n rfl rfl ?_
          refine wi_getI rfl hk ?_
          refine wi_iconst (x := 1) rfl rfl ?_
          refine wi_isub rfl ?_
          refine wi_bipush (x := 100) rfl rfl ?_
          refine wi_callS2 rfl (by decide) (by decide) rfl rfl rfl (c_cut ?_)
          refine wi_putI rfl hk ?_
          refine wi_ret rfl ?_
          exact am_mem hQ (upT_eq (by simp [u2_rd, hardF, g1, g3, g4, g5]) (by simp [u2_rd, hardF, g1, g3, g4, g5]) (by simp [u2_rd, hardF, g1, g3, g4, g5]) (by simp [u2_rd, hardF, g1, g3, g4, g5]) (by simp [u2_rd, hardF, g1, g3, g4, g5]) (by simp [u2_rd, hardF, g1, g3, g4, g5]) (fun k e0 e1 e2 e3 e4 e5 => by simp [u2_rd, e0, e1, e2, e3, e4, e5]) (fun q9 hq => by simp [u2_ne hq]))
      · try simp [u2_rd, -Int32.not_le, -Int32.not_lt] at g4
        refine wi_aload_n rfl rfl ?_
        refine wi_aload_n rfl rfl ?_
        refine wi_getI rfl hk ?_
        refine wi_bipush (x := 6) rfl rfl ?_
        refine wi_isub rfl ?_
        refine wi_bipush (x := 100) rfl rfl ?_
        refine wi_callS2 rfl (by decide) (by decide) rfl rfl rfl (c_cut ?_)
        refine wi_putI rfl hk ?_
        refine wi_aload_n rfl rfl ?_
        refine wi_getI rfl hk ?_
        refine wi_bipush (x := 70) rfl rfl ?_
        refine wi_icmp_le rfl (fun g6 => ?_) (fun g6 => ?_)
        · try simp [u2_rd, -Int32.not_le, -Int32.not_lt] at g6
          refine wi_ret rfl ?_
          exact am_mem hQ (upT_eq (by simp [u2_rd, hardF, g1, g3, g4, g6]) (by simp [u2_rd, hardF, g1, g3, g4, g6]) (by simp [u2_rd, hardF, g1, g3, g4, g6]) (by simp [u2_rd, hardF, g1, g3, g4, g6]) (by simp [u2_rd, hardF, g1, g3, g4, g6]) (by simp [u2_rd, hardF, g1, g3, g4, g6]) (fun k e0 e1 e2 e3 e4 e5 => by simp [u2_rd, e0, e1, e2, e3, e4, e5]) (fun q9 hq => by simp [u2_ne hq]))
        · try simp [u2_rd, -Int32.not_le, -Int32.not_lt] at g6
          refine wi_aload_n rfl rfl ?_
          refine wi_aload_n rfl rfl ?_
          refine wi_getI rfl hk ?_
          refine wi_iconst (x := 1) rfl rfl ?_
          refine wi_isub rfl ?_
          refine wi_bipush (x := 100) rfl rfl ?_
          refine wi_callS2 rfl (by decide) (by decide) rfl rfl rfl (c_cut ?_)
          refine wi_putI rfl hk ?_
          refine wi_ret rfl ?_
          exact am_mem hQ (upT_eq (by simp [u2_rd, hardF, g1, g3, g4, g6]) (by simp [u2_rd, hardF, g1, g3, g4, g6]) (by simp [u2_rd, hardF, g1, g3, g4, g6]) (by simp [u2_rd, hardF, g1, g3, g4, g6]) (by simp [u2_rd, hardF, g1, g3, g4, g6]) (by simp [u2_rd, hardF, g1, g3, g4, g6]) (fun k e0 e1 e2 e3 e4 e5 => by simp [u2_rd, e0, e1, e2, e3, e4, e5]) (fun q9 hq => by simp [u2_ne hq]))
    · try simp [u2_rd, -Int32.not_le, -Int32.not_lt] at g3
      refine wi_aload_n rfl rfl ?_
      refine wi_getI rfl hk ?_
      refine wi_bipush (x := 70) rfl rfl ?_
      refine wi_icmp_gt rfl (fun g7 => ?_) (fun g7 => ?_)
      · try simp [u2_rd, -Int32.not_le, -Int32.not_lt] at g7
        refine wi_aload_n rfl rfl ?_
        refine wi_getI rfl hk ?_
        refine wi_bipush (x := 60) rfl rfl ?_
        refine wi_icmp_le rfl (fun g8 => ?_) (fun g8 => ?_)
        · try simp [u2_rd, -Int32.not_le, -Int32.not_lt] at g8
          refine wi_aload_n rfl rfl ?_
          refine wi_getI rfl hk ?_
          refine wi_bipush (x := 70) rfl rfl ?_
          refine wi_icmp_le rfl (fun g9 => ?_) (fun g9 => ?_)
          · try simp [u2_rd, -Int32.not_le, -Int32.not_lt] at g9
            refine wi_ret rfl ?_
            exact am_mem hQ (upT_eq (by simp [u2_rd, hardF, g1, g3, g7, g8, g9]) (by simp [u2_rd, hardF, g1, g3, g7, g8, g9]) (by simp [u2_rd, hardF, g1, g3, g7, g8, g9]) (by simp [u2_rd, hardF, g1, g3, g7, g8, g9]) (by simp [u2_rd, hardF, g1, g3, g7, g8, g9]) (by simp [u2_rd, hardF, g1, g3, g7, g8, g9]) (fun k e0 e1 e2 e3 e4 e5 => by simp [u2_rd, e0, e1, e2, e3, e4, e5]) (fun q9 hq => by simp [u2_ne hq]))
          · try simp [u2_rd, -Int32.not_le, -Int32.not_lt] at g9
            refine wi_aload_n rfl rfl ?_
            refine wi_aload_n rfl rfl ?_
            refine wi_getI rfl hk ?_
            refine wi_iconst (x := 1) rfl rfl ?_
            refine wi_isub rfl ?_
            refine wi_bipush (x := 100) rfl rfl ?_
            refine wi_callS2 rfl (by decide) (by decide) rfl rfl rfl (c_cut ?_)
            refine wi_putI rfl hk ?_
            refine wi_ret rfl ?_
            exact am_mem hQ (upT_eq (by simp [u2_rd, hardF, g1, g3, g7, g8, g9]) (by simp [u2_rd, hardF, g1, g3, g7, g8, g9]) (by simp [u2_rd, hardF, g1, g3, g7, g8, g9]) (by simp [u2_rd, hardF, g1, g3, g7, g8, g9]) (by simp [u2_rd, hardF, g1, g3, g7, g8, g9]) (by simp [u2_rd, hardF, g1, g3, g7, g8, g9]) (fun k e0 e1 e2 e3 e4 e5 => by simp [u2_rd, e0, e1, e2, e3, e4, e5]) (fun q9 hq => by simp [u2_ne hq]))
        · try simp [u2_rd, -Int32.not_le, -Int32.not_lt] at g8
          refine wi_aload_n rfl rfl ?_
          refine wi_aload_n rfl rfl ?_
          refine wi_getI rfl hk ?_
          refine wi_bipush (x := 6) rfl rfl ?_
          refine wi_isub rfl ?_
          refine wi_bipush (x := 100) rfl rfl ?_
          refine wi_callS2 rfl (by decide) (by decide) rfl rfl rfl (c_cut ?_)
          refine wi_putI rfl hk ?_
          refine wi_aload_n rfl rfl ?_
          refine wi_getI rfl hk ?_
          refine wi_bipush (x := 70) rfl rfl ?_
          refine wi_icmp_le rfl (fun g10 => ?_) (fun g10 => ?_)
          · try simp [u2_rd, -Int32.not_le, -Int32.not_lt] at g10
            refine wi_ret rfl ?_
            exact am_mem hQ (upT_eq (by simp [u2_rd, hardF, g1, g3, g7, g8, g10]) (by simp [u2_rd, hardF, g1, g3, g7, g8, g10]) (by simp [u2_rd, hardF, g1, g3, g7, g8, g10]) (by simp [u2_rd, hardF, g1, g3, g7, g8, g10]) (by simp [u2_rd, hardF, g1, g3, g7, g8, g10]) (by simp [u2_rd, hardF, g1, g3, g7, g8, g10]) (fun k e0 e1 e2 e3 e4 e5 => by simp [u2_rd, e0, e1, e2, e3, e4, e5]) (fun q9 hq => by simp [u2_ne hq]))
          · try simp [u2_rd, -Int32.not_le, -Int32.not_lt] at g10
            refine wi_aload_n rfl rfl ?_
            refine wi_aload_n rfl rfl ?_
            refine wi_getI rfl hk ?_
            refine wi_iconst (x := 1) rfl rfl ?_
            refine wi_isub rfl ?_
            refine wi_bipush (x := 100) rfl rfl ?_
            refine wi_callS2 rfl (by decide) (by decide) rfl rfl rfl (c_cut ?_)
            refine wi_putI rfl hk ?_
            refine wi_ret rfl ?_
            exact am_mem hQ (upT_eq (by simp [u2_rd, hardF, g1, g3, g7, g8, g10]) (by simp [u2_rd, hardF, g1, g3, g7, g8, g10]) (by simp [u2_rd, hardF, g1, g3, g7, g8, g10]) (by simp [u2_rd, hardF, g1, g3, g7, g8, g10]) (by simp [u2_rd, hardF, g1, g3, g7, g8, g10]) (by simp [u2_rd, hardF, g1, g3, g7, g8, g10]) (fun k e0 e1 e2 e3 e4 e5 => by simp [u2_rd, e0, e1, e2, e3, e4, e5]) (fun q9 hq => by simp [u2_ne hq]))
      · try simp [u2_rd, -Int32.not_le, -Int32.not_lt] at g7
        refine wi_aload_n rfl rfl ?_
        refine wi_aload_n rfl rfl ?_
        refine wi_getI rfl hk ?_
        refine wi_iconst (x := 1) rfl rfl ?_
        refine wi_iadd rfl ?_
        refine wi_bipush (x := 100) rfl rfl ?_
        refine wi_aload_n rfl rfl ?_
        refine wi_getI rfl hk ?_
        refine wi_isub rfl ?_
        refine wi_bipush (x := 8) rfl rfl ?_
        refine wi_idiv rfl (by decide) ?_
        refine wi_iadd rfl ?_
        refine wi_bipush (x := 100) rfl rfl ?_
        refine wi_callS2 rfl (by decide) (by decide) rfl rfl rfl (c_cut ?_)
        refine wi_putI rfl hk ?_
        refine wi_goto rfl ?_
        refine wi_aload_n rfl rfl ?_
        refine wi_getI rfl hk ?_
        refine wi_bipush (x := 70) rfl rfl ?_
        refine wi_icmp_le rfl (fun g11 => ?_) (fun g11 => ?_)
        · try simp [u2_rd, -Int32.not_le, -Int32.not_lt] at g11
          refine wi_ret rfl ?_
          exact am_mem hQ (upT_eq (by simp [u2_rd, hardF, g1, g3, g7, g11]) (by simp [u2_rd, hardF, g1, g3, g7, g11]) (by simp [u2_rd, hardF, g1, g3, g7, g11]) (by simp [u2_rd, hardF, g1, g3, g7, g11]) (by simp [u2_rd, hardF, g1, g3, g7, g11]) (by simp [u2_rd, hardF, g1, g3, g7, g11]) (fun k e0 e1 e2 e3 e4 e5 => by simp [u2_rd, e0, e1, e2, e3, e4, e5]) (fun q9 hq => by simp [u2_ne hq]))
        · try simp [u2_rd, -Int32.not_le, -Int32.not_lt] at g11
          refine wi_aload_n rfl rfl ?_
          refine wi_aload_n rfl rfl ?_
          refine wi_getI rfl hk ?_
          refine wi_iconst (x := 1) rfl rfl ?_
          refine wi_isub rfl ?_
          refine wi_bipush (x := 100) rfl rfl ?_
          refine wi_callS2 rfl (by decide) (by decide) rfl rfl rfl (c_cut ?_)
          refine wi_putI rfl hk ?_
          refine wi_ret rfl ?_
          exact am_mem hQ (upT_eq (by simp [u2_rd, hardF, g1, g3, g7, g11]) (by simp [u2_rd, hardF, g1, g3, g7, g11]) (by simp [u2_rd, hardF, g1, g3, g7, g11]) (by simp [u2_rd, hardF, g1, g3, g7, g11]) (by simp [u2_rd, hardF, g1, g3, g7, g11]) (by simp [u2_rd, hardF, g1, g3, g7, g11]) (fun k e0 e1 e2 e3 e4 e5 => by simp [u2_rd, e0, e1, e2, e3, e4, e5]) (fun q9 hq => by simp [u2_ne hq]))
theorem c_grow (hk : am_kd (sh, mr, mi, ml) a = 8) (hQ : Q none (sh, mr, upT mi a (mi a 0) (mi a 1) (mi a 2) (growF (mi a 1) (mi a 3) (mi a 5)) (mi a 4) (mi a 5), ml)) : am_wp X (d + 1) 99 0 [.ref a] [] (sh, mr, mi, ml) Q := by
  refine wi_aload_n rfl rfl ?_
  refine wi_getI rfl hk ?_
  refine wi_bipush (x := 50) rfl rfl ?_
  refine wi_icmp_le rfl (fun g1 => ?_) (fun g1 => ?_)
  · try simp [u2_rd, -Int32.not_le, -Int32.not_lt] at g1
    refine wi_aload_n rfl rfl ?_
    refine wi_getI rfl hk ?_
    refine wi_bipush (x := 20) rfl rfl ?_
    refine wi_bipush (x := 80) rfl rfl ?_
    refine wi_callS3 rfl (by decide) (by decide) rfl rfl rfl (c_within ?_)
    refine wi_if_eq rfl (fun g2 => ?_) (fun g2 => ?_)
    · try simp [u2_rd, -Int32.not_le, -Int32.not_lt] at g2
      refine wi_aload_n rfl rfl ?_
      refine wi_getI rfl hk ?_
      refine wi_bipush (x := 10) rfl rfl ?_
      refine wi_bipush (x := 90) rfl rfl ?_
      refine wi_callS3 rfl (by decide) (by decide) rfl rfl rfl (c_within ?_)
      refine wi_if_eq rfl (fun g3 => ?_) (fun g3 => ?_)
      · try simp [u2_rd, -Int32.not_le, -Int32.not_lt] at g3
        refine wi_aload_n rfl rfl ?_
        refine wi_aload_n rfl rfl ?_
        refine wi_getI rfl hk ?_
        refine wi_iconst (x := 1) rfl rfl ?_
        refine wi_isub rfl ?_
        refine wi_bipush (x := 60) rfl rfl ?_
        refine wi_callS2 rfl (by decide) (by decide) rfl rfl rfl (c_cut ?_)
        refine wi_putI rfl hk ?_
        refine wi_ret rfl ?_
        exact am_mem hQ (upT_eq (by simp [u2_rd, growF, g1, g2, g3]) (by simp [u2_rd, growF, g1, g2, g3]) (by simp [u2_rd, growF, g1, g2, g3]) (by simp [u2_rd, growF, g1, g2, g3]) (by simp [u2_rd, growF, g1, g2, g3]) (by simp [u2_rd, growF, g1, g2, g3]) (fun k e0 e1 e2 e3 e4 e5 => by simp [u2_rd, e0, e1, e2, e3, e4, e5]) (fun q9 hq => by simp [u2_ne hq]))
      · try simp [u2_rd, -Int32.not_le, -Int32.not_lt] at g3
        refine wi_aload_n rfl rfl ?_
        refine wi_aload_n rfl rfl ?_
        refine wi_getI rfl hk ?_
        refine wi_iconst (x := 1) rfl rfl ?_
        refine wi_iadd rfl ?_
        refine wi_bipush (x := 60) rfl rfl ?_
        refine wi_callS2 rfl (by decide) (by decide) rfl rfl rfl (c_cut ?_)
        refine wi_putI rfl hk ?_
        refine wi_goto rfl ?_
        refine wi_ret rfl ?_
        exact am_mem hQ (upT_eq (by simp [u2_rd, growF, g1, g2, g3]) (by simp [u2_rd, growF, g1, g2, g3]) (by simp [u2_rd, growF, g1, g2, g3]) (by simp [u2_rd, growF, g1, g2, g3]) (by simp [u2_rd, growF, g1, g2, g3]) (by simp [u2_rd, growF, g1, g2, g3]) (fun k e0 e1 e2 e3 e4 e5 => by simp [u2_rd, e0, e1, e2, e3, e4, e5]) (fun q9 hq => by simp [u2_ne hq]))
    · try simp [u2_rd, -Int32.not_le, -Int32.not_lt] at g2
      refine wi_aload_n rfl rfl ?_
      refine wi_aload_n rfl rfl ?_
      refine wi_getI rfl hk ?_
      refine wi_iconst (x := 2) rfl rfl ?_
      refine wi_iadd rfl ?_
      refine wi_bipush (x := 60) rfl rfl ?_
      refine wi_callS2 rfl (by decide) (by decide) rfl rfl rfl (c_cut ?_)
      refine wi_putI rfl hk ?_
      refine wi_goto rfl ?_
      refine wi_ret rfl ?_
      exact am_mem hQ (upT_eq (by simp [u2_rd, growF, g1, g2]) (by simp [u2_rd, growF, g1, g2]) (by simp [u2_rd, growF, g1, g2]) (by simp [u2_rd, growF, g1, g2]) (by simp [u2_rd, growF, g1, g2]) (by simp [u2_rd, growF, g1, g2]) (fun k e0 e1 e2 e3 e4 e5 => by simp [u2_rd, e0, e1, e2, e3, e4, e5]) (fun q9 hq => by simp [u2_ne hq]))
  · try simp [u2_rd, -Int32.not_le, -Int32.not_lt] at g1
    refine wi_ret rfl ?_
    exact am_mem hQ (upT_eq (by simp [u2_rd, growF, g1]) (by simp [u2_rd, growF, g1]) (by simp [u2_rd, growF, g1]) (by simp [u2_rd, growF, g1]) (by simp [u2_rd, growF, g1]) (by simp [u2_rd, growF, g1]) (fun k e0 e1 e2 e3 e4 e5 => by simp [u2_rd, e0, e1, e2, e3, e4, e5]) (fun q9 hq => by simp [u2_ne hq]))
def dayF (f s t g h w rain sun wk bl : Int32) : Int32 × Int32 × Int32 × Int32 × Int32 × Int32 :=
  let cov : Int32 := if wk &&& 1 = 0 then 0 else 1
  let f1 := soakF f (if cov = 0 then rain else 0) (if wk &&& 8 = 0 then 0 else 1)
  let p := seepF f1 s t
  let sun1 := if cov = 0 then sun else sun / 2
  let f2 := cutF (p.1 - sun1 - g / 12) 100
  let s2 := cutF (p.2.1 - g / 20) 100
  let h1 := hardF f2 s2 h (if wk &&& 2 = 0 then 0 else 1)
  let g1 := growF s2 g w
  let g2 := if wk &&& 4 = 0 then g1 else if 6 < g1 then 6 else g1
  let w1 := if wk &&& 16 = 0 then w else if bl = 0 then cutF (w - 3) 100 else w
  (f2, s2, p.2.2, g2, cutF (h1 - bl / 200) 100, cutF (w1 + bl / 40) 100)
set_option maxHeartbeats 4000000 in
theorem c_passDay {r u wk bl : Int32} (hk : am_kd (sh, mr, mi, ml) a = 8) (hQ : Q none (sh, mr, upT mi a (dayF (mi a 0) (mi a 1) (mi a 2) (mi a 3) (mi a 4) (mi a 5) r u wk bl).1 (dayF (mi a 0) (mi a 1) (mi a 2) (mi a 3) (mi a 4) (mi a 5) r u wk bl).2.1 (dayF (mi a 0) (mi a 1) (mi a 2) (mi a 3) (mi a 4) (mi a 5) r u wk bl).2.2.1 (dayF (mi a 0) (mi a 1) (mi a 2) (mi a 3) (mi a 4) (mi a 5) r u wk bl).2.2.2.1 (dayF (mi a 0) (mi a 1) (mi a 2) (mi a 3) (mi a 4) (mi a 5) r u wk bl).2.2.2.2.1 (dayF (mi a 0) (mi a 1) (mi a 2) (mi a 3) (mi a 4) (mi a 5) r u wk bl).2.2.2.2.2, ml)) : am_wp X (d + 2) 94 0 [.ref a, .int r, .int u, .int wk, .int bl, .retAddr 0] [] (sh, mr, mi, ml) Q := by
  refine wi_iload_n rfl rfl ?_
  refine wi_iconst (x := 1) rfl rfl ?_
  refine wi_iand rfl ?_
  apply wi_if_eq_dia (jj := 7) rfl
  · intro k1
    refine wi_iconst (x := 0) rfl rfl ?_
    exact k1
  · intro k1
    refine wi_iconst (x := 1) rfl rfl ?_
    refine wi_goto rfl ?_
    exact k1
  refine wi_istore rfl (Nat.le_of_ble_eq_true rfl) rfl rfl ?_
  refine wi_aload_n rfl rfl ?_
  refine wi_iload rfl rfl ?_
  apply wi_if_eq_dia (jj := 14) rfl
  · intro k2
    refine wi_iload_n rfl rfl ?_
    exact k2
  · intro k2
    refine wi_iconst (x := 0) rfl rfl ?_
    refine wi_goto rfl ?_
    exact k2
  refine wi_iload_n rfl rfl ?_
  refine wi_bipush (x := 8) rfl rfl ?_
  refine wi_iand rfl ?_
  apply wi_if_eq_dia (jj := 21) rfl
  · intro k3
    refine wi_iconst (x := 0) rfl rfl ?_
    exact k3
  · intro k3
    refine wi_iconst (x := 1) rfl rfl ?_
    refine wi_goto rfl ?_
    exact k3
  refine wi_callV2 rfl (by decide) (by decide) rfl hk rfl rfl rfl (c_soak hk ?_)
  refine wi_aload_n rfl rfl ?_
  refine wi_callV0 rfl (by decide) (by decide) rfl hk rfl rfl rfl (c_seep hk ?_)
  refine wi_aload_n rfl rfl ?_
  refine wi_iload rfl rfl ?_
  apply wi_if_eq_dia (jj := 32) rfl
  · intro k4
    refine wi_iload_n rfl rfl ?_
    exact k4
  · intro k4
    refine wi_iload_n rfl rfl ?_
    refine wi_iconst (x := 2) rfl rfl ?_
    refine wi_idiv rfl (by decide) ?_
    refine wi_goto rfl ?_
    exact k4
  refine wi_callV1 rfl (by decide) (by decide) rfl hk rfl rfl rfl (c_dry hk ?_)
  refine wi_aload_n rfl rfl ?_
  refine wi_iload_n rfl rfl ?_
  refine wi_iconst (x := 2) rfl rfl ?_
  refine wi_iand rfl ?_
  apply wi_if_eq_dia (jj := 41) rfl
  · intro k5
    refine wi_iconst (x := 0) rfl rfl ?_
    exact k5
  · intro k5
    refine wi_iconst (x := 1) rfl rfl ?_
    refine wi_goto rfl ?_
    exact k5
  refine wi_callV1 rfl (by decide) (by decide) rfl hk rfl rfl rfl (c_harden hk ?_)
  refine wi_aload_n rfl rfl ?_
  refine wi_callV0 rfl (by decide) (by decide) rfl hk rfl rfl rfl (c_grow hk ?_)
  refine wi_iload_n rfl rfl ?_
  refine wi_iconst (x := 4) rfl rfl ?_
  refine wi_iand rfl ?_
  refine wi_if_eq rfl (fun g1 => ?_) (fun g1 => ?_)
  · refine wi_iload_n rfl rfl ?_
    refine wi_bipush (x := 16) rfl rfl ?_
    refine wi_iand rfl ?_
    refine wi_if_eq rfl (fun g2 => ?_) (fun g2 => ?_)
    · refine wi_aload_n rfl rfl ?_
      refine wi_aload_n rfl rfl ?_
      refine wi_getI rfl hk ?_
      refine wi_iload rfl rfl ?_
      refine wi_bipush (x := 40) rfl rfl ?_
      refine wi_idiv rfl (by decide) ?_
      refine wi_iadd rfl ?_
      refine wi_bipush (x := 100) rfl rfl ?_
      refine wi_callS2 rfl (by decide) (by decide) rfl rfl rfl (c_cut ?_)
      refine wi_putI rfl hk ?_
      refine wi_aload_n rfl rfl ?_
      refine wi_aload_n rfl rfl ?_
      refine wi_getI rfl hk ?_
      refine wi_iload rfl rfl ?_
      refine wi_sipush (x := 200) rfl rfl ?_
      refine wi_idiv rfl (by decide) ?_
      refine wi_isub rfl ?_
      refine wi_bipush (x := 100) rfl rfl ?_
      refine wi_callS2 rfl (by decide) (by decide) rfl rfl rfl (c_cut ?_)
      refine wi_putI rfl hk ?_
      refine wi_ret rfl ?_
      exact am_mem hQ (upT_eq (by simp [u2_rd, upT_rd, dayF, g1, g2]) (by simp [u2_rd, upT_rd, dayF, g1, g2]) (by simp [u2_rd, upT_rd, dayF, g1, g2]) (by simp [u2_rd, upT_rd, dayF, g1, g2]) (by simp [u2_rd, upT_rd, dayF, g1, g2]) (by simp [u2_rd, upT_rd, dayF, g1, g2]) (fun k e0 e1 e2 e3 e4 e5 => by simp [u2_rd, upT_rd, e0, e1, e2, e3, e4, e5]) (fun q9 hq => by simp [u2_ne hq, upT_ne hq]))
    · refine wi_iload rfl rfl ?_
      refine wi_if_ne rfl (fun g3 => ?_) (fun g3 => ?_)
      · refine wi_aload_n rfl rfl ?_
        refine wi_aload_n rfl rfl ?_
        refine wi_getI rfl hk ?_
        refine wi_iload rfl rfl ?_
        refine wi_bipush (x := 40) rfl rfl ?_
        refine wi_idiv rfl (by decide) ?_
        refine wi_iadd rfl ?_
        refine wi_bipush (x := 100) rfl rfl ?_
        refine wi_callS2 rfl (by decide) (by decide) rfl rfl rfl (c_cut ?_)
        refine wi_putI rfl hk ?_
        refine wi_aload_n rfl rfl ?_
        refine wi_aload_n rfl rfl ?_
        refine wi_getI rfl hk ?_
        refine wi_iload rfl rfl ?_
        refine wi_sipush (x := 200) rfl rfl ?_
        refine wi_idiv rfl (by decide) ?_
        refine wi_isub rfl ?_
        refine wi_bipush (x := 100) rfl rfl ?_
        refine wi_callS2 rfl (by decide) (by decide) rfl rfl rfl (c_cut ?_)
        refine wi_putI rfl hk ?_
        refine wi_ret rfl ?_
        exact am_mem hQ (upT_eq (by simp [u2_rd, upT_rd, dayF, g1, g2, g3]) (by simp [u2_rd, upT_rd, dayF, g1, g2, g3]) (by simp [u2_rd, upT_rd, dayF, g1, g2, g3]) (by simp [u2_rd, upT_rd, dayF, g1, g2, g3]) (by simp [u2_rd, upT_rd, dayF, g1, g2, g3]) (by simp [u2_rd, upT_rd, dayF, g1, g2, g3]) (fun k e0 e1 e2 e3 e4 e5 => by simp [u2_rd, upT_rd, e0, e1, e2, e3, e4, e5]) (fun q9 hq => by simp [u2_ne hq, upT_ne hq]))
      · replace g3 := Classical.not_not.mp g3
        refine wi_aload_n rfl rfl ?_
        refine wi_aload_n rfl rfl ?_
        refine wi_getI rfl hk ?_
        refine wi_iconst (x := 3) rfl rfl ?_
        refine wi_isub rfl ?_
        refine wi_bipush (x := 100) rfl rfl ?_
        refine wi_callS2 rfl (by decide) (by decide) rfl rfl rfl (c_cut ?_)
        refine wi_putI rfl hk ?_
        refine wi_aload_n rfl rfl ?_
        refine wi_aload_n rfl rfl ?_
        refine wi_getI rfl hk ?_
        refine wi_iload rfl rfl ?_
        refine wi_bipush (x := 40) rfl rfl ?_
        refine wi_idiv rfl (by decide) ?_
        refine wi_iadd rfl ?_
        refine wi_bipush (x := 100) rfl rfl ?_
        refine wi_callS2 rfl (by decide) (by decide) rfl rfl rfl (c_cut ?_)
        refine wi_putI rfl hk ?_
        refine wi_aload_n rfl rfl ?_
        refine wi_aload_n rfl rfl ?_
        refine wi_getI rfl hk ?_
        refine wi_iload rfl rfl ?_
        refine wi_sipush (x := 200) rfl rfl ?_
        refine wi_idiv rfl (by decide) ?_
        refine wi_isub rfl ?_
        refine wi_bipush (x := 100) rfl rfl ?_
        refine wi_callS2 rfl (by decide) (by decide) rfl rfl rfl (c_cut ?_)
        refine wi_putI rfl hk ?_
        refine wi_ret rfl ?_
        exact am_mem hQ (upT_eq (by simp [u2_rd, upT_rd, dayF, g1, g2, g3]) (by simp [u2_rd, upT_rd, dayF, g1, g2, g3]) (by simp [u2_rd, upT_rd, dayF, g1, g2, g3]) (by simp [u2_rd, upT_rd, dayF, g1, g2, g3]) (by simp [u2_rd, upT_rd, dayF, g1, g2, g3]) (by simp [u2_rd, upT_rd, dayF, g1, g2, g3]) (fun k e0 e1 e2 e3 e4 e5 => by simp [u2_rd, upT_rd, e0, e1, e2, e3, e4, e5]) (fun q9 hq => by simp [u2_ne hq, upT_ne hq]))
  · refine wi_aload_n rfl rfl ?_
    refine wi_aload_n rfl rfl ?_
    refine wi_getI rfl hk ?_
    refine wi_bipush (x := 6) rfl rfl ?_
    refine wi_min rfl rfl ?_
    refine wi_putI rfl hk ?_
    refine wi_iload_n rfl rfl ?_
    refine wi_bipush (x := 16) rfl rfl ?_
    refine wi_iand rfl ?_
    refine wi_if_eq rfl (fun g4 => ?_) (fun g4 => ?_)
    · refine wi_aload_n rfl rfl ?_
      refine wi_aload_n rfl rfl ?_
      refine wi_getI rfl hk ?_
      refine wi_iload rfl rfl ?_
      refine wi_bipush (x := 40) rfl rfl ?_
      refine wi_idiv rfl (by decide) ?_
      refine wi_iadd rfl ?_
      refine wi_bipush (x := 100) rfl rfl ?_
      refine wi_callS2 rfl (by decide) (by decide) rfl rfl rfl (c_cut ?_)
      refine wi_putI rfl hk ?_
      refine wi_aload_n rfl rfl ?_
      refine wi_aload_n rfl rfl ?_
      refine wi_getI rfl hk ?_
      refine wi_iload rfl rfl ?_
      refine wi_sipush (x := 200) rfl rfl ?_
      refine wi_idiv rfl (by decide) ?_
      refine wi_isub rfl ?_
      refine wi_bipush (x := 100) rfl rfl ?_
      refine wi_callS2 rfl (by decide) (by decide) rfl rfl rfl (c_cut ?_)
      refine wi_putI rfl hk ?_
      refine wi_ret rfl ?_
      exact am_mem hQ (upT_eq (by simp [u2_rd, upT_rd, dayF, g1, g4]) (by simp [u2_rd, upT_rd, dayF, g1, g4]) (by simp [u2_rd, upT_rd, dayF, g1, g4]) (by simp [u2_rd, upT_rd, dayF, g1, g4]) (by simp [u2_rd, upT_rd, dayF, g1, g4]) (by simp [u2_rd, upT_rd, dayF, g1, g4]) (fun k e0 e1 e2 e3 e4 e5 => by simp [u2_rd, upT_rd, e0, e1, e2, e3, e4, e5]) (fun q9 hq => by simp [u2_ne hq, upT_ne hq]))
    · refine wi_iload rfl rfl ?_
      refine wi_if_ne rfl (fun g5 => ?_) (fun g5 => ?_)
      · refine wi_aload_n rfl rfl ?_
        refine wi_aload_n rfl rfl ?_
        refine wi_getI rfl hk ?_
        refine wi_iload rfl rfl ?_
        refine wi_bipush (x := 40) rfl rfl ?_
        refine wi_idiv rfl (by decide) ?_
        refine wi_iadd rfl ?_
        refine wi_bipush (x := 100) rfl rfl ?_
        refine wi_callS2 rfl (by decide) (by decide) rfl rfl rfl (c_cut ?_)
        refine wi_putI rfl hk ?_
        refine wi_aload_n rfl rfl ?_
        refine wi_aload_n rfl rfl ?_
        refine wi_getI rfl hk ?_
        refine wi_iload rfl rfl ?_
        refine wi_sipush (x := 200) rfl rfl ?_
        refine wi_idiv rfl (by decide) ?_
        refine wi_isub rfl ?_
        refine wi_bipush (x := 100) rfl rfl ?_
        refine wi_callS2 rfl (by decide) (by decide) rfl rfl rfl (c_cut ?_)
        refine wi_putI rfl hk ?_
        refine wi_ret rfl ?_
        exact am_mem hQ (upT_eq (by simp [u2_rd, upT_rd, dayF, g1, g4, g5]) (by simp [u2_rd, upT_rd, dayF, g1, g4, g5]) (by simp [u2_rd, upT_rd, dayF, g1, g4, g5]) (by simp [u2_rd, upT_rd, dayF, g1, g4, g5]) (by simp [u2_rd, upT_rd, dayF, g1, g4, g5]) (by simp [u2_rd, upT_rd, dayF, g1, g4, g5]) (fun k e0 e1 e2 e3 e4 e5 => by simp [u2_rd, upT_rd, e0, e1, e2, e3, e4, e5]) (fun q9 hq => by simp [u2_ne hq, upT_ne hq]))
      · replace g5 := Classical.not_not.mp g5
        refine wi_aload_n rfl rfl ?_
        refine wi_aload_n rfl rfl ?_
        refine wi_getI rfl hk ?_
        refine wi_iconst (x := 3) rfl rfl ?_
        refine wi_isub rfl ?_
        refine wi_bipush (x := 100) rfl rfl ?_
        refine wi_callS2 rfl (by decide) (by decide) rfl rfl rfl (c_cut ?_)
        refine wi_putI rfl hk ?_
        refine wi_aload_n rfl rfl ?_
        refine wi_aload_n rfl rfl ?_
        refine wi_getI rfl hk ?_
        refine wi_iload rfl rfl ?_
        refine wi_bipush (x := 40) rfl rfl ?_
        refine wi_idiv rfl (by decide) ?_
        refine wi_iadd rfl ?_
        refine wi_bipush (x := 100) rfl rfl ?_
        refine wi_callS2 rfl (by decide) (by decide) rfl rfl rfl (c_cut ?_)
        refine wi_putI rfl hk ?_
        refine wi_aload_n rfl rfl ?_
        refine wi_aload_n rfl rfl ?_
        refine wi_getI rfl hk ?_
        refine wi_iload rfl rfl ?_
        refine wi_sipush (x := 200) rfl rfl ?_
        refine wi_idiv rfl (by decide) ?_
        refine wi_isub rfl ?_
        refine wi_bipush (x := 100) rfl rfl ?_
        refine wi_callS2 rfl (by decide) (by decide) rfl rfl rfl (c_cut ?_)
        refine wi_putI rfl hk ?_
        refine wi_ret rfl ?_
        exact am_mem hQ (upT_eq (by simp [u2_rd, upT_rd, dayF, g1, g4, g5]) (by simp [u2_rd, upT_rd, dayF, g1, g4, g5]) (by simp [u2_rd, upT_rd, dayF, g1, g4, g5]) (by simp [u2_rd, upT_rd, dayF, g1, g4, g5]) (by simp [u2_rd, upT_rd, dayF, g1, g4, g5]) (by simp [u2_rd, upT_rd, dayF, g1, g4, g5]) (fun k e0 e1 e2 e3 e4 e5 => by simp [u2_rd, upT_rd, e0, e1, e2, e3, e4, e5]) (fun q9 hq => by simp [u2_ne hq, upT_ne hq]))
theorem c_setLayers {x y z : Int32} (hk : am_kd (sh, mr, mi, ml) a = 8) (hQ : Q none (sh, mr, upT mi a x y z (mi a 3) (mi a 4) (mi a 5), ml)) : am_wp X d 85 0 [.ref a, .int x, .int y, .int z] [] (sh, mr, mi, ml) Q := by
  refine wi_aload_n rfl rfl ?_
  refine wi_iload_n rfl rfl ?_
  refine wi_putI rfl hk ?_
  refine wi_aload_n rfl rfl ?_
  refine wi_iload_n rfl rfl ?_
  refine wi_putI rfl hk ?_
  refine wi_aload_n rfl rfl ?_
  refine wi_iload_n rfl rfl ?_
  refine wi_putI rfl hk ?_
  refine wi_ret rfl ?_
  exact am_mem hQ (upT_eq (by simp [u2_rd]) (by simp [u2_rd]) (by simp [u2_rd]) (by simp [u2_rd]) (by simp [u2_rd]) (by simp [u2_rd]) (fun k e0 e1 e2 e3 e4 e5 => by simp [u2_rd, upT_rd, e0, e1, e2, e3, e4, e5]) (fun q9 hq => by simp [u2_ne hq, upT_ne hq]))
theorem c_setSurface {x y z : Int32} (hk : am_kd (sh, mr, mi, ml) a = 8) (hQ : Q none (sh, mr, upT mi a (mi a 0) (mi a 1) (mi a 2) x y z, ml)) : am_wp X d 86 0 [.ref a, .int x, .int y, .int z] [] (sh, mr, mi, ml) Q := by
  refine wi_aload_n rfl rfl ?_
  refine wi_iload_n rfl rfl ?_
  refine wi_putI rfl hk ?_
  refine wi_aload_n rfl rfl ?_
  refine wi_iload_n rfl rfl ?_
  refine wi_putI rfl hk ?_
  refine wi_aload_n rfl rfl ?_
  refine wi_iload_n rfl rfl ?_
  refine wi_putI rfl hk ?_
  refine wi_ret rfl ?_
  exact am_mem hQ (upT_eq (by simp [u2_rd]) (by simp [u2_rd]) (by simp [u2_rd]) (by simp [u2_rd]) (by simp [u2_rd]) (by simp [u2_rd]) (fun k e0 e1 e2 e3 e4 e5 => by simp [u2_rd, upT_rd, e0, e1, e2, e3, e4, e5]) (fun q9 hq => by simp [u2_ne hq, upT_ne hq]))
theorem c_copyFrom {b : Nat} (hk : am_kd (sh, mr, mi, ml) a = 8) (hb : am_kd (sh, mr, mi, ml) b = 8) (hab : b ≠ a) (hQ : Q none (sh, mr, upT mi a (mi b 0) (mi b 1) (mi b 2) (mi b 3) (mi b 4) (mi b 5), ml)) : am_wp X (d + 1) 87 0 [.ref a, .ref b] [] (sh, mr, mi, ml) Q := by
  refine wi_aload_n rfl rfl ?_
  refine wi_aload_n rfl rfl ?_
  refine wi_getI rfl hb ?_
  refine wi_aload_n rfl rfl ?_
  refine wi_getI rfl hb ?_
  refine wi_aload_n rfl rfl ?_
  refine wi_getI rfl hb ?_
  refine wi_callV3 rfl (by decide) (by decide) rfl hk rfl rfl rfl (c_setLayers hk ?_)
  refine wi_aload_n rfl rfl ?_
  refine wi_aload_n rfl rfl ?_
  refine wi_getI rfl hb ?_
  refine wi_aload_n rfl rfl ?_
  refine wi_getI rfl hb ?_
  refine wi_aload_n rfl rfl ?_
  refine wi_getI rfl hb ?_
  refine wi_callV3 rfl (by decide) (by decide) rfl hk rfl rfl rfl (c_setSurface hk ?_)
  refine wi_ret rfl ?_
  exact am_mem hQ (upT_eq (by simp [u2_rd, upT_rd, upT_ne hab]) (by simp [u2_rd, upT_rd, upT_ne hab]) (by simp [u2_rd, upT_rd, upT_ne hab]) (by simp [u2_rd, upT_rd, upT_ne hab]) (by simp [u2_rd, upT_rd, upT_ne hab]) (by simp [u2_rd, upT_rd, upT_ne hab]) (fun k e0 e1 e2 e3 e4 e5 => by simp [u2_rd, upT_rd, e0, e1, e2, e3, e4, e5]) (fun q9 hq => by simp [u2_ne hq, upT_ne hq]))
theorem c_orderWorks {x : Int32} (hk : am_kd (sh, mr, mi, ml) a = 8) (hQ : Q none (sh, mr, u2 mi a 6 x, ml)) : am_wp X d 88 0 [.ref a, .int x] [] (sh, mr, mi, ml) Q := by
  refine wi_aload_n rfl rfl ?_
  refine wi_iload_n rfl rfl ?_
  refine wi_putI rfl hk ?_
  refine wi_ret rfl ?_
  exact hQ
theorem c_ballsToday (hk : am_kd (sh, mr, mi, ml) a = 8) (hQ : Q (some (.int (mi a 7))) (sh, mr, mi, ml)) : am_wp X d 89 0 [.ref a] [] (sh, mr, mi, ml) Q := by
  refine wi_aload_n rfl rfl ?_
  refine wi_getI rfl hk ?_
  refine wi_iret rfl (Or.inl rfl) ?_
  exact hQ
theorem c_addBalls {x : Int32} (hk : am_kd (sh, mr, mi, ml) a = 8) (hQ : Q none (sh, mr, u2 mi a 7 (mi a 7 + x), ml)) : am_wp X d 90 0 [.ref a, .int x] [] (sh, mr, mi, ml) Q := by
  refine wi_aload_n rfl rfl ?_
  refine wi_dup rfl rfl ?_
  refine wi_getI rfl hk ?_
  refine wi_iload_n rfl rfl ?_
  refine wi_iadd rfl ?_
  refine wi_putI rfl hk ?_
  refine wi_ret rfl ?_
  exact hQ
theorem c_endDay {r u : Int32} (hk : am_kd (sh, mr, mi, ml) a = 8) (hQ : Q none (sh, mr, u2 (u2 (upT mi a (dayF (mi a 0) (mi a 1) (mi a 2) (mi a 3) (mi a 4) (mi a 5) r u (mi a 6) (mi a 7)).1 (dayF (mi a 0) (mi a 1) (mi a 2) (mi a 3) (mi a 4) (mi a 5) r u (mi a 6) (mi a 7)).2.1 (dayF (mi a 0) (mi a 1) (mi a 2) (mi a 3) (mi a 4) (mi a 5) r u (mi a 6) (mi a 7)).2.2.1 (dayF (mi a 0) (mi a 1) (mi a 2) (mi a 3) (mi a 4) (mi a 5) r u (mi a 6) (mi a 7)).2.2.2.1 (dayF (mi a 0) (mi a 1) (mi a 2) (mi a 3) (mi a 4) (mi a 5) r u (mi a 6) (mi a 7)).2.2.2.2.1 (dayF (mi a 0) (mi a 1) (mi a 2) (mi a 3) (mi a 4) (mi a 5) r u (mi a 6) (mi a 7)).2.2.2.2.2) a 6 0) a 7 0, ml)) : am_wp X (d + 3) 91 0 [.ref a, .int r, .int u] [] (sh, mr, mi, ml) Q := by
  refine wi_aload_n rfl rfl ?_
  refine wi_iload_n rfl rfl ?_
  refine wi_iload_n rfl rfl ?_
  refine wi_aload_n rfl rfl ?_
  refine wi_getI rfl hk ?_
  refine wi_aload_n rfl rfl ?_
  refine wi_getI rfl hk ?_
  refine wi_callV4 rfl (by decide) (by decide) rfl hk rfl rfl rfl (c_passDay hk ?_)
  refine wi_aload_n rfl rfl ?_
  refine wi_iconst (x := 0) rfl rfl ?_
  refine wi_putI rfl hk ?_
  refine wi_aload_n rfl rfl ?_
  refine wi_iconst (x := 0) rfl rfl ?_
  refine wi_putI rfl hk ?_
  refine wi_ret rfl ?_
  exact hQ
def valF (r : Nat → Int32) (w : Int32) : Int32 := if w = 0 then r 0 else if w = 1 then r 1 else if w = 2 then r 2 else if w = 3 then r 3 else if w = 4 then r 4 else if w = 5 then r 5 else bncF (r 0) (r 3) (r 4) (r 5)
theorem c_valueOf {w : Int32} (hk : am_kd (sh, mr, mi, ml) a = 8) (hQ : Q (some (.int (valF (mi a) w))) (sh, mr, mi, ml)) : am_wp X (d + 1) 92 0 [.ref a, .int w] [] (sh, mr, mi, ml) Q := by
  refine wi_iload_n rfl rfl ?_
  by_cases e0 : w = 0
  · subst e0
    refine wi_tsw (t := 2) rfl rfl (by decide) rfl ?_
    refine wi_aload_n rfl rfl ?_
    refine wi_getI rfl hk ?_
    refine wi_iret rfl (Or.inl rfl) ?_
    exact hQ
  by_cases e1 : w = 1
  · subst e1
    refine wi_tsw (t := 5) rfl rfl (by decide) rfl ?_
    refine wi_aload_n rfl rfl ?_
    refine wi_getI rfl hk ?_
    refine wi_iret rfl (Or.inl rfl) ?_
    exact hQ
  by_cases e2 : w = 2
  · subst e2
    refine wi_tsw (t := 8) rfl rfl (by decide) rfl ?_
    refine wi_aload_n rfl rfl ?_
    refine wi_getI rfl hk ?_
    refine wi_iret rfl (Or.inl rfl) ?_
    exact hQ
  by_cases e3 : w = 3
  · subst e3
    refine wi_tsw (t := 11) rfl rfl (by decide) rfl ?_
    refine wi_aload_n rfl rfl ?_
    refine wi_getI rfl hk ?_
    refine wi_iret rfl (Or.inl rfl) ?_
    exact hQ
  by_cases e4 : w = 4
  · subst e4
    refine wi_tsw (t := 14) rfl rfl (by decide) rfl ?_
    refine wi_aload_n rfl rfl ?_
    refine wi_getI rfl hk ?_
    refine wi_iret rfl (Or.inl rfl) ?_
    exact hQ
  by_cases e5 : w = 5
  · subst e5
    refine wi_tsw (t := 17) rfl rfl (by decide) rfl ?_
    refine wi_aload_n rfl rfl ?_
    refine wi_getI rfl hk ?_
    refine wi_iret rfl (Or.inl rfl) ?_
    exact hQ
  refine wi_tswD rfl rfl ?_ ?_
  · have e9 : ∀ z : Int32, w ≠ z → w.toInt ≠ z.toInt := fun z h1 h2 => h1 (Int32.toInt_inj.mp h2)
    have := e9 0 e0; have := e9 1 e1; have := e9 2 e2; have := e9 3 e3; have := e9 4 e4; have := e9 5 e5
    have z0 : (0 : Int32).toInt = 0 := rfl
    have z1 : (1 : Int32).toInt = 1 := rfl
    have z2 : (2 : Int32).toInt = 2 := rfl
    have z3 : (3 : Int32).toInt = 3 := rfl
    have z4 : (4 : Int32).toInt = 4 := rfl
    have z5 : (5 : Int32).toInt = 5 := rfl
    omega
  refine wi_aload_n rfl rfl ?_
  refine wi_callV0 rfl (by decide) (by decide) rfl hk rfl rfl rfl (c_bounce hk ?_)
  refine wi_iret rfl (Or.inl rfl) ?_
  simpa [valF, e0, e1, e2, e3, e4, e5] using hQ
end TURF
end
section
/-! ===== the law, from its entry to its loop: both constructors ===== -/
def am_shT : List (Nat × Nat) := [(10, 15), (104, 8), (8, 8), (9, 2), (100, 1000), (100, 1000), (9, 2), (100, 1000), (100, 1000), (2, 4), (100, 200), (100, 200), (100, 200), (3, 8), (104, 7), (100, 6), (100, 6), (100, 6), (100, 6), (8, 8), (8, 8), (8, 8), (8, 8), (8, 8), (8, 8), (8, 8), (7, 2), (100, 400), (5, 13), (100, 8), (100, 8), (4, 5), (100, 8), (105, 8), (100, 6), (100, 6), (100, 6), (100, 6), (100, 6), (100, 6), (100, 6), (100, 6), (105, 8), (100, 6), (100, 6), (100, 6), (100, 6), (100, 6), (100, 6), (100, 6), (100, 6), (105, 8), (100, 6), (100, 6), (100, 6), (100, 6), (100, 6), (100, 6), (100, 6), (100, 6), (6, 11), (100, 8), (100, 8), (105, 8), (100, 8), (100, 8), (100, 8), (100, 8), (100, 8), (100, 8), (100, 8), (100, 8), (102, 256), (103, 256), (103, 256), (1, 6), (105, 8), (100, 3), (100, 3), (100, 3), (100, 3), (100, 3), (100, 3), (100, 3), (100, 3), (105, 8), (100, 3), (100, 3), (100, 3), (100, 3), (100, 3), (100, 3), (100, 3), (100, 3), (103, 3), (103, 3), (0, 2), (4, 5), (100, 8), (105, 8), (100, 6), (100, 6), (100, 6), (100, 6), (100, 6), (100, 6), (100, 6), (100, 6), (105, 8), (100, 6), (100, 6), (100, 6), (100, 6), (100, 6), (100, 6), (100, 6), (100, 6), (105, 8), (100, 6), (100, 6), (100, 6), (100, 6), (100, 6), (100, 6), (100, 6), (100, 6), (8, 8), (8, 8), (8, 8), (8, 8), (8, 8), (8, 8), (8, 8), (8, 8), (11, 58), (100, 48), (100, 8), (100, 8), (100, 1000), (100, 1000), (100, 1000), (100, 1000), (100, 6), (100, 200), (100, 200), (100, 200), (100, 6), (100, 6), (100, 8), (100, 8), (100, 64), (100, 8), (100, 8), (100, 9), (100, 100), (100, 100), (100, 100), (101, 400), (100, 8), (100, 48), (100, 48), (100, 48), (100, 8), (100, 48), (100, 48), (100, 48), (103, 8)]
def am_mr0 : List (List (Option Nat)) := [[some 1, some 2, none, none, none, none, none, none, none, none, none, none, none, none, none], [none, none, none, none, none, none, none, none], [none, none, none, none, none, none, none, none], [some 4, none], []]
def am_mr1 : List (List (Option Nat)) := [[some 1, some 2, some 3, none, none, none, none, none, none, none, none, none, none, none, none], [none, none, none, none, none, none, none, none], [none, none, none, none, none, none, none, none], [some 4, some 5], [], [], [some 7, some 8], [], []]
def am_mr2 : List (List (Option Nat)) := [[some 1, some 2, some 3, some 6, none, none, none, none, none, none, none, none, none, none, none], [none, none, none, none, none, none, none, none], [none, none, none, none, none, none, none, none], [some 4, some 5], [], [], [some 7, some 8], [], [], [some 10, some 11, some 12, none], [], [], []]
def am_mr3 : List (List (Option Nat)) := [[some 1, some 2, some 3, some 6, some 9, none, none, none, none, none, none, none, none, none, none], [none, none, none, none, none, none, none, none], [none, none, none, none, none, none, none, none], [some 4, some 5], [], [], [some 7, some 8], [], [], [some 10, some 11, some 12, none], [], [], [], [some 14, some 15, some 16, none, none, none, none, none], [none, none, none, none, none, none, none], [], []]
def am_mr4 : List (List (Option Nat)) := [[some 1, some 2, some 3, some 6, some 9, none, none, none, none, none, none, none, none, none, none], [none, none, none, none, none, none, none, none], [none, none, none, none, none, none, none, none], [some 4, some 5], [], [], [some 7, some 8], [], [], [some 10, some 11, some 12, none], [], [], [], [some 14, some 15, some 16, some 17, some 18, none, none, none], [some 19, some 20, none, none, none, none, none], [], [], [], [], [none, none, none, none, none, none, none, none], [none, none, none, none, none, none, none, none]]
def am_mr5 : List (List (Option Nat)) := [[some 1, some 2, some 3, some 6, some 9, none, none, none, none, none, none, none, none, none, none], [none, none, none, none, none, none, none, none], [none, none, none, none, none, none, none, none], [some 4, some 5], [], [], [some 7, some 8], [], [], [some 10, some 11, some 12, none], [], [], [], [some 14, some 15, some 16, some 17, some 18, none, none, none], [some 19, some 20, some 21, some 22, some 23, some 24, none], [], [], [], [], [none, none, none, none, none, none, none, none], [none, none, none, none, none, none, none, none], [none, none, none, none, none, none, none, none], [none, none, none, none, none, none, none, none], [none, none, none, none, none, none, none, none], [none, none, none, none, none, none, none, none]]
def am_mr6 : List (List (Option Nat)) := [[some 1, some 2, some 3, some 6, some 9, some 13, some 26, none, none, none, none, none, none, none, none], [none, none, none, none, none, none, none, none], [none, none, none, none, none, none, none, none], [some 4, some 5], [], [], [some 7, some 8], [], [], [some 10, some 11, some 12, none], [], [], [], [some 14, some 15, some 16, some 17, some 18, none, none, none], [some 19, some 20, some 21, some 22, some 23, some 24, some 25], [], [], [], [], [none, none, none, none, none, none, none, none], [none, none, none, none, none, none, none, none], [none, none, none, none, none, none, none, none], [none, none, none, none, none, none, none, none], [none, none, none, none, none, none, none, none], [none, none, none, none, none, none, none, none], [none, none, none, none, none, none, none, none], [some 27, none], [], [none, none, none, none, none, none, none, none, none, none, none, none, none]]
def am_mr7 : List (List (Option Nat)) := [[some 1, some 2, some 3, some 6, some 9, some 13, some 26, none, none, none, none, none, none, none, none], [none, none, none, none, none, none, none, none], [none, none, none, none, none, none, none, none], [some 4, some 5], [], [], [some 7, some 8], [], [], [some 10, some 11, some 12, none], [], [], [], [some 14, some 15, some 16, some 17, some 18, none, none, none], [some 19, some 20, some 21, some 22, some 23, some 24, some 25], [], [], [], [], [none, none, none, none, none, none, none, none], [none, none, none, none, none, none, none, none], [none, none, none, none, none, none, none, none], [none, none, none, none, none, none, none, none], [none, none, none, none, none, none, none, none], [none, none, none, none, none, none, none, none], [none, none, none, none, none, none, none, none], [some 27, none], [], [some 29, some 30, none, none, none, none, none, none, none, none, none, none, none], [], [], [some 32, none, none, none, none], [], [some 34, some 35, some 36, some 37, some 38, some 39, some 40, some 41], [], [], [], [], [], [], [], []]
def am_mr8 : List (List (Option Nat)) := [[some 1, some 2, some 3, some 6, some 9, some 13, some 26, none, none, none, none, none, none, none, none], [none, none, none, none, none, none, none, none], [none, none, none, none, none, none, none, none], [some 4, some 5], [], [], [some 7, some 8], [], [], [some 10, some 11, some 12, none], [], [], [], [some 14, some 15, some 16, some 17, some 18, none, none, none], [some 19, some 20, some 21, some 22, some 23, some 24, some 25], [], [], [], [], [none, none, none, none, none, none, none, none], [none, none, none, none, none, none, none, none], [none, none, none, none, none, none, none, none], [none, none, none, none, none, none, none, none], [none, none, none, none, none, none, none, none], [none, none, none, none, none, none, none, none], [none, none, none, none, none, none, none, none], [some 27, none], [], [some 29, some 30, none, none, none, none, none, none, none, none, none, none, none], [], [], [some 32, some 33, none, none, none], [], [some 34, some 35, some 36, some 37, some 38, some 39, some 40, some 41], [], [], [], [], [], [], [], [], [some 43, some 44, some 45, some 46, some 47, some 48, some 49, some 50], [], [], [], [], [], [], [], []]
def am_mr9 : List (List (Option Nat)) := [[some 1, some 2, some 3, some 6, some 9, some 13, some 26, none, none, none, none, none, none, none, none], [none, none, none, none, none, none, none, none], [none, none, none, none, none, none, none, none], [some 4, some 5], [], [], [some 7, some 8], [], [], [some 10, some 11, some 12, none], [], [], [], [some 14, some 15, some 16, some 17, some 18, none, none, none], [some 19, some 20, some 21, some 22, some 23, some 24, some 25], [], [], [], [], [none, none, none, none, none, none, none, none], [none, none, none, none, none, none, none, none], [none, none, none, none, none, none, none, none], [none, none, none, none, none, none, none, none], [none, none, none, none, none, none, none, none], [none, none, none, none, none, none, none, none], [none, none, none, none, none, none, none, none], [some 27, none], [], [some 29, some 30, none, none, none, none, none, none, none, none, none, none, none], [], [], [some 32, some 33, some 42, none, none], [], [some 34, some 35, some 36, some 37, some 38, some 39, some 40, some 41], [], [], [], [], [], [], [], [], [some 43, some 44, some 45, some 46, some 47, some 48, some 49, some 50], [], [], [], [], [], [], [], [], [some 52, some 53, some 54, some 55, some 56, some 57, some 58, some 59], [], [], [], [], [], [], [], []]
def am_mr10 : List (List (Option Nat)) := [[some 1, some 2, some 3, some 6, some 9, some 13, some 26, some 28, none, none, none, none, none, none, none], [none, none, none, none, none, none, none, none], [none, none, none, none, none, none, none, none], [some 4, some 5], [], [], [some 7, some 8], [], [], [some 10, some 11, some 12, none], [], [], [], [some 14, some 15, some 16, some 17, some 18, none, none, none], [some 19, some 20, some 21, some 22, some 23, some 24, some 25], [], [], [], [], [none, none, none, none, none, none, none, none], [none, none, none, none, none, none, none, none], [none, none, none, none, none, none, none, none], [none, none, none, none, none, none, none, none], [none, none, none, none, none, none, none, none], [none, none, none, none, none, none, none, none], [none, none, none, none, none, none, none, none], [some 27, none], [], [some 29, some 30, some 26, some 31, none, none, none, none, none, none, none, none, none], [], [], [some 32, some 33, some 42, some 51, none], [], [some 34, some 35, some 36, some 37, some 38, some 39, some 40, some 41], [], [], [], [], [], [], [], [], [some 43, some 44, some 45, some 46, some 47, some 48, some 49, some 50], [], [], [], [], [], [], [], [], [some 52, some 53, some 54, some 55, some 56, some 57, some 58, some 59], [], [], [], [], [], [], [], [], [some 61, none, none, none, none, none, none, none, none, none, none], [], []]
def am_mr11 : List (List (Option Nat)) := [[some 1, some 2, some 3, some 6, some 9, some 13, some 26, some 28, none, none, none, none, none, none, none], [none, none, none, none, none, none, none, none], [none, none, none, none, none, none, none, none], [some 4, some 5], [], [], [some 7, some 8], [], [], [some 10, some 11, some 12, none], [], [], [], [some 14, some 15, some 16, some 17, some 18, none, none, none], [some 19, some 20, some 21, some 22, some 23, some 24, some 25], [], [], [], [], [none, none, none, none, none, none, none, none], [none, none, none, none, none, none, none, none], [none, none, none, none, none, none, none, none], [none, none, none, none, none, none, none, none], [none, none, none, none, none, none, none, none], [none, none, none, none, none, none, none, none], [none, none, none, none, none, none, none, none], [some 27, none], [], [some 29, some 30, some 26, some 31, none, none, none, none, none, none, none, none, none], [], [], [some 32, some 33, some 42, some 51, none], [], [some 34, some 35, some 36, some 37, some 38, some 39, some 40, some 41], [], [], [], [], [], [], [], [], [some 43, some 44, some 45, some 46, some 47, some 48, some 49, some 50], [], [], [], [], [], [], [], [], [some 52, some 53, some 54, some 55, some 56, some 57, some 58, some 59], [], [], [], [], [], [], [], [], [some 61, some 62, none, none, none, none, none, none, none, none, none], [], [], [some 64, some 65, some 66, some 67, some 68, some 69, some 70, some 71], [], [], [], [], [], [], [], []]
def am_mr12 : List (List (Option Nat)) := [[some 1, some 2, some 3, some 6, some 9, some 13, some 26, some 28, some 60, none, none, none, none, none, none], [none, none, none, none, none, none, none, none], [none, none, none, none, none, none, none, none], [some 4, some 5], [], [], [some 7, some 8], [], [], [some 10, some 11, some 12, none], [], [], [], [some 14, some 15, some 16, some 17, some 18, none, none, none], [some 19, some 20, some 21, some 22, some 23, some 24, some 25], [], [], [], [], [none, none, none, none, none, none, none, none], [none, none, none, none, none, none, none, none], [none, none, none, none, none, none, none, none], [none, none, none, none, none, none, none, none], [none, none, none, none, none, none, none, none], [none, none, none, none, none, none, none, none], [none, none, none, none, none, none, none, none], [some 27, none], [], [some 29, some 30, some 26, some 31, none, none, none, none, none, none, none, none, none], [], [], [some 32, some 33, some 42, some 51, none], [], [some 34, some 35, some 36, some 37, some 38, some 39, some 40, some 41], [], [], [], [], [], [], [], [], [some 43, some 44, some 45, some 46, some 47, some 48, some 49, some 50], [], [], [], [], [], [], [], [], [some 52, some 53, some 54, some 55, some 56, some 57, some 58, some 59], [], [], [], [], [], [], [], [], [some 61, some 62, some 63, none, none, none, some 72, some 73, some 74, none, none], [], [], [some 64, some 65, some 66, some 67, some 68, some 69, some 70, some 71], [], [], [], [], [], [], [], [], [], [], []]
def am_mr13 : List (List (Option Nat)) := [[some 1, some 2, some 3, some 6, some 9, some 13, some 26, some 28, some 60, none, none, none, none, none, none], [none, none, none, none, none, none, none, none], [none, none, none, none, none, none, none, none], [some 4, some 5], [], [], [some 7, some 8], [], [], [some 10, some 11, some 12, none], [], [], [], [some 14, some 15, some 16, some 17, some 18, none, none, none], [some 19, some 20, some 21, some 22, some 23, some 24, some 25], [], [], [], [], [none, none, none, none, none, none, none, none], [none, none, none, none, none, none, none, none], [none, none, none, none, none, none, none, none], [none, none, none, none, none, none, none, none], [none, none, none, none, none, none, none, none], [none, none, none, none, none, none, none, none], [none, none, none, none, none, none, none, none], [some 27, none], [], [some 29, some 30, some 26, some 31, none, none, none, none, none, none, none, none, none], [], [], [some 32, some 33, some 42, some 51, none], [], [some 34, some 35, some 36, some 37, some 38, some 39, some 40, some 41], [], [], [], [], [], [], [], [], [some 43, some 44, some 45, some 46, some 47, some 48, some 49, some 50], [], [], [], [], [], [], [], [], [some 52, some 53, some 54, some 55, some 56, some 57, some 58, some 59], [], [], [], [], [], [], [], [], [some 61, some 62, some 63, none, none, none, some 72, some 73, some 74, none, none], [], [], [some 64, some 65, some 66, some 67, some 68, some 69, some 70, some 71], [], [], [], [], [], [], [], [], [], [], [], [none, none, none, none, none, none], [some 77, some 78, some 79, some 80, some 81, some 82, some 83, some 84], [], [], [], [], [], [], [], []]
def am_mr14 : List (List (Option Nat)) := [[some 1, some 2, some 3, some 6, some 9, some 13, some 26, some 28, some 60, none, none, none, none, none, none], [none, none, none, none, none, none, none, none], [none, none, none, none, none, none, none, none], [some 4, some 5], [], [], [some 7, some 8], [], [], [some 10, some 11, some 12, none], [], [], [], [some 14, some 15, some 16, some 17, some 18, none, none, none], [some 19, some 20, some 21, some 22, some 23, some 24, some 25], [], [], [], [], [none, none, none, none, none, none, none, none], [none, none, none, none, none, none, none, none], [none, none, none, none, none, none, none, none], [none, none, none, none, none, none, none, none], [none, none, none, none, none, none, none, none], [none, none, none, none, none, none, none, none], [none, none, none, none, none, none, none, none], [some 27, none], [], [some 29, some 30, some 26, some 31, none, none, none, none, none, none, none, none, none], [], [], [some 32, some 33, some 42, some 51, none], [], [some 34, some 35, some 36, some 37, some 38, some 39, some 40, some 41], [], [], [], [], [], [], [], [], [some 43, some 44, some 45, some 46, some 47, some 48, some 49, some 50], [], [], [], [], [], [], [], [], [some 52, some 53, some 54, some 55, some 56, some 57, some 58, some 59], [], [], [], [], [], [], [], [], [some 61, some 62, some 63, none, none, none, some 72, some 73, some 74, none, none], [], [], [some 64, some 65, some 66, some 67, some 68, some 69, some 70, some 71], [], [], [], [], [], [], [], [], [], [], [], [some 76, none, none, none, none, none], [some 77, some 78, some 79, some 80, some 81, some 82, some 83, some 84], [], [], [], [], [], [], [], [], [some 86, some 87, some 88, some 89, some 90, some 91, some 92, some 93], [], [], [], [], [], [], [], []]
def am_mr15 : List (List (Option Nat)) := [[some 1, some 2, some 3, some 6, some 9, some 13, some 26, some 28, some 60, some 75, some 96, none, none, none, none], [none, none, none, none, none, none, none, none], [none, none, none, none, none, none, none, none], [some 4, some 5], [], [], [some 7, some 8], [], [], [some 10, some 11, some 12, none], [], [], [], [some 14, some 15, some 16, some 17, some 18, none, none, none], [some 19, some 20, some 21, some 22, some 23, some 24, some 25], [], [], [], [], [none, none, none, none, none, none, none, none], [none, none, none, none, none, none, none, none], [none, none, none, none, none, none, none, none], [none, none, none, none, none, none, none, none], [none, none, none, none, none, none, none, none], [none, none, none, none, none, none, none, none], [none, none, none, none, none, none, none, none], [some 27, none], [], [some 29, some 30, some 26, some 31, none, none, none, none, none, none, none, none, none], [], [], [some 32, some 33, some 42, some 51, none], [], [some 34, some 35, some 36, some 37, some 38, some 39, some 40, some 41], [], [], [], [], [], [], [], [], [some 43, some 44, some 45, some 46, some 47, some 48, some 49, some 50], [], [], [], [], [], [], [], [], [some 52, some 53, some 54, some 55, some 56, some 57, some 58, some 59], [], [], [], [], [], [], [], [], [some 61, some 62, some 63, none, none, none, some 72, some 73, some 74, none, none], [], [], [some 64, some 65, some 66, some 67, some 68, some 69, some 70, some 71], [], [], [], [], [], [], [], [], [], [], [], [some 76, some 85, some 94, some 95, none, none], [some 77, some 78, some 79, some 80, some 81, some 82, some 83, some 84], [], [], [], [], [], [], [], [], [some 86, some 87, some 88, some 89, some 90, some 91, some 92, some 93], [], [], [], [], [], [], [], [], [], [], [none, none]]
def am_mr16 : List (List (Option Nat)) := [[some 1, some 2, some 3, some 6, some 9, some 13, some 26, some 28, some 60, some 75, some 96, none, none, none, none], [none, none, none, none, none, none, none, none], [none, none, none, none, none, none, none, none], [some 4, some 5], [], [], [some 7, some 8], [], [], [some 10, some 11, some 12, none], [], [], [], [some 14, some 15, some 16, some 17, some 18, none, none, none], [some 19, some 20, some 21, some 22, some 23, some 24, some 25], [], [], [], [], [none, none, none, none, none, none, none, none], [none, none, none, none, none, none, none, none], [none, none, none, none, none, none, none, none], [none, none, none, none, none, none, none, none], [none, none, none, none, none, none, none, none], [none, none, none, none, none, none, none, none], [none, none, none, none, none, none, none, none], [some 27, none], [], [some 29, some 30, some 26, some 31, none, none, none, none, none, none, none, none, none], [], [], [some 32, some 33, some 42, some 51, none], [], [some 34, some 35, some 36, some 37, some 38, some 39, some 40, some 41], [], [], [], [], [], [], [], [], [some 43, some 44, some 45, some 46, some 47, some 48, some 49, some 50], [], [], [], [], [], [], [], [], [some 52, some 53, some 54, some 55, some 56, some 57, some 58, some 59], [], [], [], [], [], [], [], [], [some 61, some 62, some 63, none, none, none, some 72, some 73, some 74, none, none], [], [], [some 64, some 65, some 66, some 67, some 68, some 69, some 70, some 71], [], [], [], [], [], [], [], [], [], [], [], [some 76, some 85, some 94, some 95, none, none], [some 77, some 78, some 79, some 80, some 81, some 82, some 83, some 84], [], [], [], [], [], [], [], [], [some 86, some 87, some 88, some 89, some 90, some 91, some 92, some 93], [], [], [], [], [], [], [], [], [], [], [none, none], [some 98, none, none, none, none], [], [some 100, some 101, some 102, some 103, some 104, some 105, some 106, some 107], [], [], [], [], [], [], [], []]
def am_mr17 : List (List (Option Nat)) := [[some 1, some 2, some 3, some 6, some 9, some 13, some 26, some 28, some 60, some 75, some 96, none, none, none, none], [none, none, none, none, none, none, none, none], [none, none, none, none, none, none, none, none], [some 4, some 5], [], [], [some 7, some 8], [], [], [some 10, some 11, some 12, none], [], [], [], [some 14, some 15, some 16, some 17, some 18, none, none, none], [some 19, some 20, some 21, some 22, some 23, some 24, some 25], [], [], [], [], [none, none, none, none, none, none, none, none], [none, none, none, none, none, none, none, none], [none, none, none, none, none, none, none, none], [none, none, none, none, none, none, none, none], [none, none, none, none, none, none, none, none], [none, none, none, none, none, none, none, none], [none, none, none, none, none, none, none, none], [some 27, none], [], [some 29, some 30, some 26, some 31, none, none, none, none, none, none, none, none, none], [], [], [some 32, some 33, some 42, some 51, none], [], [some 34, some 35, some 36, some 37, some 38, some 39, some 40, some 41], [], [], [], [], [], [], [], [], [some 43, some 44, some 45, some 46, some 47, some 48, some 49, some 50], [], [], [], [], [], [], [], [], [some 52, some 53, some 54, some 55, some 56, some 57, some 58, some 59], [], [], [], [], [], [], [], [], [some 61, some 62, some 63, none, none, none, some 72, some 73, some 74, none, none], [], [], [some 64, some 65, some 66, some 67, some 68, some 69, some 70, some 71], [], [], [], [], [], [], [], [], [], [], [], [some 76, some 85, some 94, some 95, none, none], [some 77, some 78, some 79, some 80, some 81, some 82, some 83, some 84], [], [], [], [], [], [], [], [], [some 86, some 87, some 88, some 89, some 90, some 91, some 92, some 93], [], [], [], [], [], [], [], [], [], [], [none, none], [some 98, some 99, none, none, none], [], [some 100, some 101, some 102, some 103, some 104, some 105, some 106, some 107], [], [], [], [], [], [], [], [], [some 109, some 110, some 111, some 112, some 113, some 114, some 115, some 116], [], [], [], [], [], [], [], []]
def am_mr18 : List (List (Option Nat)) := [[some 1, some 2, some 3, some 6, some 9, some 13, some 26, some 28, some 60, some 75, some 96, none, none, none, none], [none, none, none, none, none, none, none, none], [none, none, none, none, none, none, none, none], [some 4, some 5], [], [], [some 7, some 8], [], [], [some 10, some 11, some 12, none], [], [], [], [some 14, some 15, some 16, some 17, some 18, none, none, none], [some 19, some 20, some 21, some 22, some 23, some 24, some 25], [], [], [], [], [none, none, none, none, none, none, none, none], [none, none, none, none, none, none, none, none], [none, none, none, none, none, none, none, none], [none, none, none, none, none, none, none, none], [none, none, none, none, none, none, none, none], [none, none, none, none, none, none, none, none], [none, none, none, none, none, none, none, none], [some 27, none], [], [some 29, some 30, some 26, some 31, none, none, none, none, none, none, none, none, none], [], [], [some 32, some 33, some 42, some 51, none], [], [some 34, some 35, some 36, some 37, some 38, some 39, some 40, some 41], [], [], [], [], [], [], [], [], [some 43, some 44, some 45, some 46, some 47, some 48, some 49, some 50], [], [], [], [], [], [], [], [], [some 52, some 53, some 54, some 55, some 56, some 57, some 58, some 59], [], [], [], [], [], [], [], [], [some 61, some 62, some 63, none, none, none, some 72, some 73, some 74, none, none], [], [], [some 64, some 65, some 66, some 67, some 68, some 69, some 70, some 71], [], [], [], [], [], [], [], [], [], [], [], [some 76, some 85, some 94, some 95, none, none], [some 77, some 78, some 79, some 80, some 81, some 82, some 83, some 84], [], [], [], [], [], [], [], [], [some 86, some 87, some 88, some 89, some 90, some 91, some 92, some 93], [], [], [], [], [], [], [], [], [], [], [none, none], [some 98, some 99, some 108, none, none], [], [some 100, some 101, some 102, some 103, some 104, some 105, some 106, some 107], [], [], [], [], [], [], [], [], [some 109, some 110, some 111, some 112, some 113, some 114, some 115, some 116], [], [], [], [], [], [], [], [], [some 118, some 119, some 120, some 121, some 122, some 123, some 124, some 125], [], [], [], [], [], [], [], []]
def am_mr19 : List (List (Option Nat)) := [[some 1, some 2, some 3, some 6, some 9, some 13, some 26, some 28, some 60, some 75, some 96, some 97, none, none, none], [some 126, some 127, some 128, none, none, none, none, none], [none, none, none, none, none, none, none, none], [some 4, some 5], [], [], [some 7, some 8], [], [], [some 10, some 11, some 12, none], [], [], [], [some 14, some 15, some 16, some 17, some 18, none, none, none], [some 19, some 20, some 21, some 22, some 23, some 24, some 25], [], [], [], [], [none, none, none, none, none, none, none, none], [none, none, none, none, none, none, none, none], [none, none, none, none, none, none, none, none], [none, none, none, none, none, none, none, none], [none, none, none, none, none, none, none, none], [none, none, none, none, none, none, none, none], [none, none, none, none, none, none, none, none], [some 27, none], [], [some 29, some 30, some 26, some 31, none, none, none, none, none, none, none, none, none], [], [], [some 32, some 33, some 42, some 51, none], [], [some 34, some 35, some 36, some 37, some 38, some 39, some 40, some 41], [], [], [], [], [], [], [], [], [some 43, some 44, some 45, some 46, some 47, some 48, some 49, some 50], [], [], [], [], [], [], [], [], [some 52, some 53, some 54, some 55, some 56, some 57, some 58, some 59], [], [], [], [], [], [], [], [], [some 61, some 62, some 63, none, none, none, some 72, some 73, some 74, none, none], [], [], [some 64, some 65, some 66, some 67, some 68, some 69, some 70, some 71], [], [], [], [], [], [], [], [], [], [], [], [some 76, some 85, some 94, some 95, none, none], [some 77, some 78, some 79, some 80, some 81, some 82, some 83, some 84], [], [], [], [], [], [], [], [], [some 86, some 87, some 88, some 89, some 90, some 91, some 92, some 93], [], [], [], [], [], [], [], [], [], [], [none, none], [some 98, some 99, some 108, some 117, none], [], [some 100, some 101, some 102, some 103, some 104, some 105, some 106, some 107], [], [], [], [], [], [], [], [], [some 109, some 110, some 111, some 112, some 113, some 114, some 115, some 116], [], [], [], [], [], [], [], [], [some 118, some 119, some 120, some 121, some 122, some 123, some 124, some 125], [], [], [], [], [], [], [], [], [none, none, none, none, none, none, none, none], [none, none, none, none, none, none, none, none], [none, none, none, none, none, none, none, none]]
def am_mr20 : List (List (Option Nat)) := [[some 1, some 2, some 3, some 6, some 9, some 13, some 26, some 28, some 60, some 75, some 96, some 97, none, none, none], [some 126, some 127, some 128, some 129, some 130, some 131, some 132, none], [none, none, none, none, none, none, none, none], [some 4, some 5], [], [], [some 7, some 8], [], [], [some 10, some 11, some 12, none], [], [], [], [some 14, some 15, some 16, some 17, some 18, none, none, none], [some 19, some 20, some 21, some 22, some 23, some 24, some 25], [], [], [], [], [none, none, none, none, none, none, none, none], [none, none, none, none, none, none, none, none], [none, none, none, none, none, none, none, none], [none, none, none, none, none, none, none, none], [none, none, none, none, none, none, none, none], [none, none, none, none, none, none, none, none], [none, none, none, none, none, none, none, none], [some 27, none], [], [some 29, some 30, some 26, some 31, none, none, none, none, none, none, none, none, none], [], [], [some 32, some 33, some 42, some 51, none], [], [some 34, some 35, some 36, some 37, some 38, some 39, some 40, some 41], [], [], [], [], [], [], [], [], [some 43, some 44, some 45, some 46, some 47, some 48, some 49, some 50], [], [], [], [], [], [], [], [], [some 52, some 53, some 54, some 55, some 56, some 57, some 58, some 59], [], [], [], [], [], [], [], [], [some 61, some 62, some 63, none, none, none, some 72, some 73, some 74, none, none], [], [], [some 64, some 65, some 66, some 67, some 68, some 69, some 70, some 71], [], [], [], [], [], [], [], [], [], [], [], [some 76, some 85, some 94, some 95, none, none], [some 77, some 78, some 79, some 80, some 81, some 82, some 83, some 84], [], [], [], [], [], [], [], [], [some 86, some 87, some 88, some 89, some 90, some 91, some 92, some 93], [], [], [], [], [], [], [], [], [], [], [none, none], [some 98, some 99, some 108, some 117, none], [], [some 100, some 101, some 102, some 103, some 104, some 105, some 106, some 107], [], [], [], [], [], [], [], [], [some 109, some 110, some 111, some 112, some 113, some 114, some 115, some 116], [], [], [], [], [], [], [], [], [some 118, some 119, some 120, some 121, some 122, some 123, some 124, some 125], [], [], [], [], [], [], [], [], [none, none, none, none, none, none, none, none], [none, none, none, none, none, none, none, none], [none, none, none, none, none, none, none, none], [none, none, none, none, none, none, none, none], [none, none, none, none, none, none, none, none], [none, none, none, none, none, none, none, none], [none, none, none, none, none, none, none, none]]
def am_mr21 : List (List (Option Nat)) := [[some 1, some 2, some 3, some 6, some 9, some 13, some 26, some 28, some 60, some 75, some 96, some 97, none, none, none], [some 126, some 127, some 128, some 129, some 130, some 131, some 132, some 133], [none, none, none, none, none, none, none, none], [some 4, some 5], [], [], [some 7, some 8], [], [], [some 10, some 11, some 12, none], [], [], [], [some 14, some 15, some 16, some 17, some 18, none, none, none], [some 19, some 20, some 21, some 22, some 23, some 24, some 25], [], [], [], [], [none, none, none, none, none, none, none, none], [none, none, none, none, none, none, none, none], [none, none, none, none, none, none, none, none], [none, none, none, none, none, none, none, none], [none, none, none, none, none, none, none, none], [none, none, none, none, none, none, none, none], [none, none, none, none, none, none, none, none], [some 27, none], [], [some 29, some 30, some 26, some 31, none, none, none, none, none, none, none, none, none], [], [], [some 32, some 33, some 42, some 51, none], [], [some 34, some 35, some 36, some 37, some 38, some 39, some 40, some 41], [], [], [], [], [], [], [], [], [some 43, some 44, some 45, some 46, some 47, some 48, some 49, some 50], [], [], [], [], [], [], [], [], [some 52, some 53, some 54, some 55, some 56, some 57, some 58, some 59], [], [], [], [], [], [], [], [], [some 61, some 62, some 63, none, none, none, some 72, some 73, some 74, none, none], [], [], [some 64, some 65, some 66, some 67, some 68, some 69, some 70, some 71], [], [], [], [], [], [], [], [], [], [], [], [some 76, some 85, some 94, some 95, none, none], [some 77, some 78, some 79, some 80, some 81, some 82, some 83, some 84], [], [], [], [], [], [], [], [], [some 86, some 87, some 88, some 89, some 90, some 91, some 92, some 93], [], [], [], [], [], [], [], [], [], [], [none, none], [some 98, some 99, some 108, some 117, none], [], [some 100, some 101, some 102, some 103, some 104, some 105, some 106, some 107], [], [], [], [], [], [], [], [], [some 109, some 110, some 111, some 112, some 113, some 114, some 115, some 116], [], [], [], [], [], [], [], [], [some 118, some 119, some 120, some 121, some 122, some 123, some 124, some 125], [], [], [], [], [], [], [], [], [none, none, none, none, none, none, none, none], [none, none, none, none, none, none, none, none], [none, none, none, none, none, none, none, none], [none, none, none, none, none, none, none, none], [none, none, none, none, none, none, none, none], [none, none, none, none, none, none, none, none], [none, none, none, none, none, none, none, none], [none, none, none, none, none, none, none, none], [none, none, none, none, none, none, some 135, some 136, none, none, none, none, none, none, none, none, none, none, none, none, none, none, none, none, none, none, none, none, none, none, none, none, none, none, none, none, none, none, none, none, none, none, none, none, none, none, none, none, none, none, none, none, none, none, none, none, none, none], [], [], []]
def am_mr22 : List (List (Option Nat)) := [[some 1, some 2, some 3, some 6, some 9, some 13, some 26, some 28, some 60, some 75, some 96, some 97, none, none, none], [some 126, some 127, some 128, some 129, some 130, some 131, some 132, some 133], [none, none, none, none, none, none, none, none], [some 4, some 5], [], [], [some 7, some 8], [], [], [some 10, some 11, some 12, none], [], [], [], [some 14, some 15, some 16, some 17, some 18, none, none, none], [some 19, some 20, some 21, some 22, some 23, some 24, some 25], [], [], [], [], [none, none, none, none, none, none, none, none], [none, none, none, none, none, none, none, none], [none, none, none, none, none, none, none, none], [none, none, none, none, none, none, none, none], [none, none, none, none, none, none, none, none], [none, none, none, none, none, none, none, none], [none, none, none, none, none, none, none, none], [some 27, none], [], [some 29, some 30, some 26, some 31, none, none, none, none, none, none, none, none, none], [], [], [some 32, some 33, some 42, some 51, none], [], [some 34, some 35, some 36, some 37, some 38, some 39, some 40, some 41], [], [], [], [], [], [], [], [], [some 43, some 44, some 45, some 46, some 47, some 48, some 49, some 50], [], [], [], [], [], [], [], [], [some 52, some 53, some 54, some 55, some 56, some 57, some 58, some 59], [], [], [], [], [], [], [], [], [some 61, some 62, some 63, none, none, none, some 72, some 73, some 74, none, none], [], [], [some 64, some 65, some 66, some 67, some 68, some 69, some 70, some 71], [], [], [], [], [], [], [], [], [], [], [], [some 76, some 85, some 94, some 95, none, none], [some 77, some 78, some 79, some 80, some 81, some 82, some 83, some 84], [], [], [], [], [], [], [], [], [some 86, some 87, some 88, some 89, some 90, some 91, some 92, some 93], [], [], [], [], [], [], [], [], [], [], [none, none], [some 98, some 99, some 108, some 117, none], [], [some 100, some 101, some 102, some 103, some 104, some 105, some 106, some 107], [], [], [], [], [], [], [], [], [some 109, some 110, some 111, some 112, some 113, some 114, some 115, some 116], [], [], [], [], [], [], [], [], [some 118, some 119, some 120, some 121, some 122, some 123, some 124, some 125], [], [], [], [], [], [], [], [], [none, none, none, none, none, none, none, none], [none, none, none, none, none, none, none, none], [none, none, none, none, none, none, none, none], [none, none, none, none, none, none, none, none], [none, none, none, none, none, none, none, none], [none, none, none, none, none, none, none, none], [none, none, none, none, none, none, none, none], [none, none, none, none, none, none, none, none], [none, none, none, none, none, none, some 135, some 136, some 137, some 138, some 139, some 140, none, none, none, none, none, none, none, none, none, none, none, none, none, none, none, none, none, none, none, none, none, none, none, none, none, none, none, none, none, none, none, none, none, none, none, none, none, none, none, none, none, none, none, none, none, none], [], [], [], [], [], [], []]
def am_mr23 : List (List (Option Nat)) := [[some 1, some 2, some 3, some 6, some 9, some 13, some 26, some 28, some 60, some 75, some 96, some 97, none, none, none], [some 126, some 127, some 128, some 129, some 130, some 131, some 132, some 133], [none, none, none, none, none, none, none, none], [some 4, some 5], [], [], [some 7, some 8], [], [], [some 10, some 11, some 12, none], [], [], [], [some 14, some 15, some 16, some 17, some 18, none, none, none], [some 19, some 20, some 21, some 22, some 23, some 24, some 25], [], [], [], [], [none, none, none, none, none, none, none, none], [none, none, none, none, none, none, none, none], [none, none, none, none, none, none, none, none], [none, none, none, none, none, none, none, none], [none, none, none, none, none, none, none, none], [none, none, none, none, none, none, none, none], [none, none, none, none, none, none, none, none], [some 27, none], [], [some 29, some 30, some 26, some 31, none, none, none, none, none, none, none, none, none], [], [], [some 32, some 33, some 42, some 51, none], [], [some 34, some 35, some 36, some 37, some 38, some 39, some 40, some 41], [], [], [], [], [], [], [], [], [some 43, some 44, some 45, some 46, some 47, some 48, some 49, some 50], [], [], [], [], [], [], [], [], [some 52, some 53, some 54, some 55, some 56, some 57, some 58, some 59], [], [], [], [], [], [], [], [], [some 61, some 62, some 63, none, none, none, some 72, some 73, some 74, none, none], [], [], [some 64, some 65, some 66, some 67, some 68, some 69, some 70, some 71], [], [], [], [], [], [], [], [], [], [], [], [some 76, some 85, some 94, some 95, none, none], [some 77, some 78, some 79, some 80, some 81, some 82, some 83, some 84], [], [], [], [], [], [], [], [], [some 86, some 87, some 88, some 89, some 90, some 91, some 92, some 93], [], [], [], [], [], [], [], [], [], [], [none, none], [some 98, some 99, some 108, some 117, none], [], [some 100, some 101, some 102, some 103, some 104, some 105, some 106, some 107], [], [], [], [], [], [], [], [], [some 109, some 110, some 111, some 112, some 113, some 114, some 115, some 116], [], [], [], [], [], [], [], [], [some 118, some 119, some 120, some 121, some 122, some 123, some 124, some 125], [], [], [], [], [], [], [], [], [none, none, none, none, none, none, none, none], [none, none, none, none, none, none, none, none], [none, none, none, none, none, none, none, none], [none, none, none, none, none, none, none, none], [none, none, none, none, none, none, none, none], [none, none, none, none, none, none, none, none], [none, none, none, none, none, none, none, none], [none, none, none, none, none, none, none, none], [none, none, none, none, none, none, some 135, some 136, some 137, some 138, some 139, some 140, some 141, some 142, none, some 143, some 144, none, none, none, none, none, none, none, none, none, none, none, none, none, none, none, none, none, none, none, none, none, none, none, none, none, none, none, none, none, none, none, none, none, none, none, none, none, none, none, none, none], [], [], [], [], [], [], [], [], [], [], []]
def am_mr24 : List (List (Option Nat)) := [[some 1, some 2, some 3, some 6, some 9, some 13, some 26, some 28, some 60, some 75, some 96, some 97, none, none, none], [some 126, some 127, some 128, some 129, some 130, some 131, some 132, some 133], [none, none, none, none, none, none, none, none], [some 4, some 5], [], [], [some 7, some 8], [], [], [some 10, some 11, some 12, none], [], [], [], [some 14, some 15, some 16, some 17, some 18, none, none, none], [some 19, some 20, some 21, some 22, some 23, some 24, some 25], [], [], [], [], [none, none, none, none, none, none, none, none], [none, none, none, none, none, none, none, none], [none, none, none, none, none, none, none, none], [none, none, none, none, none, none, none, none], [none, none, none, none, none, none, none, none], [none, none, none, none, none, none, none, none], [none, none, none, none, none, none, none, none], [some 27, none], [], [some 29, some 30, some 26, some 31, none, none, none, none, none, none, none, none, none], [], [], [some 32, some 33, some 42, some 51, none], [], [some 34, some 35, some 36, some 37, some 38, some 39, some 40, some 41], [], [], [], [], [], [], [], [], [some 43, some 44, some 45, some 46, some 47, some 48, some 49, some 50], [], [], [], [], [], [], [], [], [some 52, some 53, some 54, some 55, some 56, some 57, some 58, some 59], [], [], [], [], [], [], [], [], [some 61, some 62, some 63, none, none, none, some 72, some 73, some 74, none, none], [], [], [some 64, some 65, some 66, some 67, some 68, some 69, some 70, some 71], [], [], [], [], [], [], [], [], [], [], [], [some 76, some 85, some 94, some 95, none, none], [some 77, some 78, some 79, some 80, some 81, some 82, some 83, some 84], [], [], [], [], [], [], [], [], [some 86, some 87, some 88, some 89, some 90, some 91, some 92, some 93], [], [], [], [], [], [], [], [], [], [], [none, none], [some 98, some 99, some 108, some 117, none], [], [some 100, some 101, some 102, some 103, some 104, some 105, some 106, some 107], [], [], [], [], [], [], [], [], [some 109, some 110, some 111, some 112, some 113, some 114, some 115, some 116], [], [], [], [], [], [], [], [], [some 118, some 119, some 120, some 121, some 122, some 123, some 124, some 125], [], [], [], [], [], [], [], [], [none, none, none, none, none, none, none, none], [none, none, none, none, none, none, none, none], [none, none, none, none, none, none, none, none], [none, none, none, none, none, none, none, none], [none, none, none, none, none, none, none, none], [none, none, none, none, none, none, none, none], [none, none, none, none, none, none, none, none], [none, none, none, none, none, none, none, none], [none, none, none, none, none, none, some 135, some 136, some 137, some 138, some 139, some 140, some 141, some 142, none, some 143, some 144, some 145, some 146, some 147, none, none, none, none, some 148, none, none, none, none, none, none, none, none, none, none, none, none, none, none, none, none, none, none, none, none, none, none, none, none, none, none, none, none, none, none, none, none, none], [], [], [], [], [], [], [], [], [], [], [], [], [], [], []]
def am_mr25 : List (List (Option Nat)) := [[some 1, some 2, some 3, some 6, some 9, some 13, some 26, some 28, some 60, some 75, some 96, some 97, none, none, none], [some 126, some 127, some 128, some 129, some 130, some 131, some 132, some 133], [none, none, none, none, none, none, none, none], [some 4, some 5], [], [], [some 7, some 8], [], [], [some 10, some 11, some 12, none], [], [], [], [some 14, some 15, some 16, some 17, some 18, none, none, none], [some 19, some 20, some 21, some 22, some 23, some 24, some 25], [], [], [], [], [none, none, none, none, none, none, none, none], [none, none, none, none, none, none, none, none], [none, none, none, none, none, none, none, none], [none, none, none, none, none, none, none, none], [none, none, none, none, none, none, none, none], [none, none, none, none, none, none, none, none], [none, none, none, none, none, none, none, none], [some 27, none], [], [some 29, some 30, some 26, some 31, none, none, none, none, none, none, none, none, none], [], [], [some 32, some 33, some 42, some 51, none], [], [some 34, some 35, some 36, some 37, some 38, some 39, some 40, some 41], [], [], [], [], [], [], [], [], [some 43, some 44, some 45, some 46, some 47, some 48, some 49, some 50], [], [], [], [], [], [], [], [], [some 52, some 53, some 54, some 55, some 56, some 57, some 58, some 59], [], [], [], [], [], [], [], [], [some 61, some 62, some 63, none, none, none, some 72, some 73, some 74, none, none], [], [], [some 64, some 65, some 66, some 67, some 68, some 69, some 70, some 71], [], [], [], [], [], [], [], [], [], [], [], [some 76, some 85, some 94, some 95, none, none], [some 77, some 78, some 79, some 80, some 81, some 82, some 83, some 84], [], [], [], [], [], [], [], [], [some 86, some 87, some 88, some 89, some 90, some 91, some 92, some 93], [], [], [], [], [], [], [], [], [], [], [none, none], [some 98, some 99, some 108, some 117, none], [], [some 100, some 101, some 102, some 103, some 104, some 105, some 106, some 107], [], [], [], [], [], [], [], [], [some 109, some 110, some 111, some 112, some 113, some 114, some 115, some 116], [], [], [], [], [], [], [], [], [some 118, some 119, some 120, some 121, some 122, some 123, some 124, some 125], [], [], [], [], [], [], [], [], [none, none, none, none, none, none, none, none], [none, none, none, none, none, none, none, none], [none, none, none, none, none, none, none, none], [none, none, none, none, none, none, none, none], [none, none, none, none, none, none, none, none], [none, none, none, none, none, none, none, none], [none, none, none, none, none, none, none, none], [none, none, none, none, none, none, none, none], [none, none, none, none, none, none, some 135, some 136, some 137, some 138, some 139, some 140, some 141, some 142, none, some 143, some 144, some 145, some 146, some 147, none, none, none, none, some 148, some 149, some 150, some 151, some 152, none, none, none, none, none, none, none, none, none, none, none, none, none, none, none, none, none, none, none, none, none, none, none, none, none, none, none, none, none], [], [], [], [], [], [], [], [], [], [], [], [], [], [], [], [], [], [], []]
def am_mr26 : List (List (Option Nat)) := [[some 1, some 2, some 3, some 6, some 9, some 13, some 26, some 28, some 60, some 75, some 96, some 97, none, none, none], [some 126, some 127, some 128, some 129, some 130, some 131, some 132, some 133], [none, none, none, none, none, none, none, none], [some 4, some 5], [], [], [some 7, some 8], [], [], [some 10, some 11, some 12, none], [], [], [], [some 14, some 15, some 16, some 17, some 18, none, none, none], [some 19, some 20, some 21, some 22, some 23, some 24, some 25], [], [], [], [], [none, none, none, none, none, none, none, none], [none, none, none, none, none, none, none, none], [none, none, none, none, none, none, none, none], [none, none, none, none, none, none, none, none], [none, none, none, none, none, none, none, none], [none, none, none, none, none, none, none, none], [none, none, none, none, none, none, none, none], [some 27, none], [], [some 29, some 30, some 26, some 31, none, none, none, none, none, none, none, none, none], [], [], [some 32, some 33, some 42, some 51, none], [], [some 34, some 35, some 36, some 37, some 38, some 39, some 40, some 41], [], [], [], [], [], [], [], [], [some 43, some 44, some 45, some 46, some 47, some 48, some 49, some 50], [], [], [], [], [], [], [], [], [some 52, some 53, some 54, some 55, some 56, some 57, some 58, some 59], [], [], [], [], [], [], [], [], [some 61, some 62, some 63, none, none, none, some 72, some 73, some 74, none, none], [], [], [some 64, some 65, some 66, some 67, some 68, some 69, some 70, some 71], [], [], [], [], [], [], [], [], [], [], [], [some 76, some 85, some 94, some 95, none, none], [some 77, some 78, some 79, some 80, some 81, some 82, some 83, some 84], [], [], [], [], [], [], [], [], [some 86, some 87, some 88, some 89, some 90, some 91, some 92, some 93], [], [], [], [], [], [], [], [], [], [], [none, none], [some 98, some 99, some 108, some 117, none], [], [some 100, some 101, some 102, some 103, some 104, some 105, some 106, some 107], [], [], [], [], [], [], [], [], [some 109, some 110, some 111, some 112, some 113, some 114, some 115, some 116], [], [], [], [], [], [], [], [], [some 118, some 119, some 120, some 121, some 122, some 123, some 124, some 125], [], [], [], [], [], [], [], [], [none, none, none, none, none, none, none, none], [none, none, none, none, none, none, none, none], [none, none, none, none, none, none, none, none], [none, none, none, none, none, none, none, none], [none, none, none, none, none, none, none, none], [none, none, none, none, none, none, none, none], [none, none, none, none, none, none, none, none], [none, none, none, none, none, none, none, none], [none, none, none, none, none, none, some 135, some 136, some 137, some 138, some 139, some 140, some 141, some 142, none, some 143, some 144, some 145, some 146, some 147, none, none, none, none, some 148, some 149, some 150, some 151, some 152, some 153, none, some 154, some 155, some 156, none, none, none, none, none, none, none, none, none, none, none, none, none, none, none, none, none, none, none, none, none, none, none, none], [], [], [], [], [], [], [], [], [], [], [], [], [], [], [], [], [], [], [], [], [], [], []]
def am_mr27 : List (List (Option Nat)) := [[some 1, some 2, some 3, some 6, some 9, some 13, some 26, some 28, some 60, some 75, some 96, some 97, none, none, none], [some 126, some 127, some 128, some 129, some 130, some 131, some 132, some 133], [none, none, none, none, none, none, none, none], [some 4, some 5], [], [], [some 7, some 8], [], [], [some 10, some 11, some 12, none], [], [], [], [some 14, some 15, some 16, some 17, some 18, none, none, none], [some 19, some 20, some 21, some 22, some 23, some 24, some 25], [], [], [], [], [none, none, none, none, none, none, none, none], [none, none, none, none, none, none, none, none], [none, none, none, none, none, none, none, none], [none, none, none, none, none, none, none, none], [none, none, none, none, none, none, none, none], [none, none, none, none, none, none, none, none], [none, none, none, none, none, none, none, none], [some 27, none], [], [some 29, some 30, some 26, some 31, none, none, none, none, none, none, none, none, none], [], [], [some 32, some 33, some 42, some 51, none], [], [some 34, some 35, some 36, some 37, some 38, some 39, some 40, some 41], [], [], [], [], [], [], [], [], [some 43, some 44, some 45, some 46, some 47, some 48, some 49, some 50], [], [], [], [], [], [], [], [], [some 52, some 53, some 54, some 55, some 56, some 57, some 58, some 59], [], [], [], [], [], [], [], [], [some 61, some 62, some 63, none, none, none, some 72, some 73, some 74, none, none], [], [], [some 64, some 65, some 66, some 67, some 68, some 69, some 70, some 71], [], [], [], [], [], [], [], [], [], [], [], [some 76, some 85, some 94, some 95, none, none], [some 77, some 78, some 79, some 80, some 81, some 82, some 83, some 84], [], [], [], [], [], [], [], [], [some 86, some 87, some 88, some 89, some 90, some 91, some 92, some 93], [], [], [], [], [], [], [], [], [], [], [none, none], [some 98, some 99, some 108, some 117, none], [], [some 100, some 101, some 102, some 103, some 104, some 105, some 106, some 107], [], [], [], [], [], [], [], [], [some 109, some 110, some 111, some 112, some 113, some 114, some 115, some 116], [], [], [], [], [], [], [], [], [some 118, some 119, some 120, some 121, some 122, some 123, some 124, some 125], [], [], [], [], [], [], [], [], [none, none, none, none, none, none, none, none], [none, none, none, none, none, none, none, none], [none, none, none, none, none, none, none, none], [none, none, none, none, none, none, none, none], [none, none, none, none, none, none, none, none], [none, none, none, none, none, none, none, none], [none, none, none, none, none, none, none, none], [none, none, none, none, none, none, none, none], [none, none, none, none, none, none, some 135, some 136, some 137, some 138, some 139, some 140, some 141, some 142, none, some 143, some 144, some 145, some 146, some 147, none, none, none, none, some 148, some 149, some 150, some 151, some 152, some 153, none, some 154, some 155, some 156, some 157, none, none, none, none, none, none, none, none, none, none, none, none, none, none, some 158, some 159, some 160, none, none, none, none, none, none], [], [], [], [], [], [], [], [], [], [], [], [], [], [], [], [], [], [], [], [], [], [], [], [], [], [], []]
def am_mr28 : List (List (Option Nat)) := [[some 1, some 2, some 3, some 6, some 9, some 13, some 26, some 28, some 60, some 75, some 96, some 97, none, none, none], [some 126, some 127, some 128, some 129, some 130, some 131, some 132, some 133], [none, none, none, none, none, none, none, none], [some 4, some 5], [], [], [some 7, some 8], [], [], [some 10, some 11, some 12, none], [], [], [], [some 14, some 15, some 16, some 17, some 18, none, none, none], [some 19, some 20, some 21, some 22, some 23, some 24, some 25], [], [], [], [], [none, none, none, none, none, none, none, none], [none, none, none, none, none, none, none, none], [none, none, none, none, none, none, none, none], [none, none, none, none, none, none, none, none], [none, none, none, none, none, none, none, none], [none, none, none, none, none, none, none, none], [none, none, none, none, none, none, none, none], [some 27, none], [], [some 29, some 30, some 26, some 31, none, none, none, none, none, none, none, none, none], [], [], [some 32, some 33, some 42, some 51, none], [], [some 34, some 35, some 36, some 37, some 38, some 39, some 40, some 41], [], [], [], [], [], [], [], [], [some 43, some 44, some 45, some 46, some 47, some 48, some 49, some 50], [], [], [], [], [], [], [], [], [some 52, some 53, some 54, some 55, some 56, some 57, some 58, some 59], [], [], [], [], [], [], [], [], [some 61, some 62, some 63, none, none, none, some 72, some 73, some 74, none, none], [], [], [some 64, some 65, some 66, some 67, some 68, some 69, some 70, some 71], [], [], [], [], [], [], [], [], [], [], [], [some 76, some 85, some 94, some 95, none, none], [some 77, some 78, some 79, some 80, some 81, some 82, some 83, some 84], [], [], [], [], [], [], [], [], [some 86, some 87, some 88, some 89, some 90, some 91, some 92, some 93], [], [], [], [], [], [], [], [], [], [], [none, none], [some 98, some 99, some 108, some 117, none], [], [some 100, some 101, some 102, some 103, some 104, some 105, some 106, some 107], [], [], [], [], [], [], [], [], [some 109, some 110, some 111, some 112, some 113, some 114, some 115, some 116], [], [], [], [], [], [], [], [], [some 118, some 119, some 120, some 121, some 122, some 123, some 124, some 125], [], [], [], [], [], [], [], [], [none, none, none, none, none, none, none, none], [none, none, none, none, none, none, none, none], [none, none, none, none, none, none, none, none], [none, none, none, none, none, none, none, none], [none, none, none, none, none, none, none, none], [none, none, none, none, none, none, none, none], [none, none, none, none, none, none, none, none], [none, none, none, none, none, none, none, none], [none, none, none, none, none, none, some 135, some 136, some 137, some 138, some 139, some 140, some 141, some 142, none, some 143, some 144, some 145, some 146, some 147, none, none, none, none, some 148, some 149, some 150, some 151, some 152, some 153, none, some 154, some 155, some 156, some 157, none, none, none, none, none, none, none, none, none, none, none, none, none, none, some 158, some 159, some 160, some 161, some 162, some 163, some 164, none, none], [], [], [], [], [], [], [], [], [], [], [], [], [], [], [], [], [], [], [], [], [], [], [], [], [], [], [], [], [], [], []]
def am_mr29 : List (List (Option Nat)) := [[some 1, some 2, some 3, some 6, some 9, some 13, some 26, some 28, some 60, some 75, some 96, some 97, none, none, none], [some 126, some 127, some 128, some 129, some 130, some 131, some 132, some 133], [none, none, none, none, none, none, none, none], [some 4, some 5], [], [], [some 7, some 8], [], [], [some 10, some 11, some 12, none], [], [], [], [some 14, some 15, some 16, some 17, some 18, none, none, none], [some 19, some 20, some 21, some 22, some 23, some 24, some 25], [], [], [], [], [none, none, none, none, none, none, none, none], [none, none, none, none, none, none, none, none], [none, none, none, none, none, none, none, none], [none, none, none, none, none, none, none, none], [none, none, none, none, none, none, none, none], [none, none, none, none, none, none, none, none], [none, none, none, none, none, none, none, none], [some 27, none], [], [some 29, some 30, some 26, some 31, none, none, none, none, none, none, none, none, none], [], [], [some 32, some 33, some 42, some 51, none], [], [some 34, some 35, some 36, some 37, some 38, some 39, some 40, some 41], [], [], [], [], [], [], [], [], [some 43, some 44, some 45, some 46, some 47, some 48, some 49, some 50], [], [], [], [], [], [], [], [], [some 52, some 53, some 54, some 55, some 56, some 57, some 58, some 59], [], [], [], [], [], [], [], [], [some 61, some 62, some 63, none, none, none, some 72, some 73, some 74, none, none], [], [], [some 64, some 65, some 66, some 67, some 68, some 69, some 70, some 71], [], [], [], [], [], [], [], [], [], [], [], [some 76, some 85, some 94, some 95, none, none], [some 77, some 78, some 79, some 80, some 81, some 82, some 83, some 84], [], [], [], [], [], [], [], [], [some 86, some 87, some 88, some 89, some 90, some 91, some 92, some 93], [], [], [], [], [], [], [], [], [], [], [none, none], [some 98, some 99, some 108, some 117, none], [], [some 100, some 101, some 102, some 103, some 104, some 105, some 106, some 107], [], [], [], [], [], [], [], [], [some 109, some 110, some 111, some 112, some 113, some 114, some 115, some 116], [], [], [], [], [], [], [], [], [some 118, some 119, some 120, some 121, some 122, some 123, some 124, some 125], [], [], [], [], [], [], [], [], [none, none, none, none, none, none, none, none], [none, none, none, none, none, none, none, none], [none, none, none, none, none, none, none, none], [none, none, none, none, none, none, none, none], [none, none, none, none, none, none, none, none], [none, none, none, none, none, none, none, none], [none, none, none, none, none, none, none, none], [none, none, none, none, none, none, none, none], [none, none, none, none, none, none, some 135, some 136, some 137, some 138, some 139, some 140, some 141, some 142, none, some 143, some 144, some 145, some 146, some 147, none, none, none, none, some 148, some 149, some 150, some 151, some 152, some 153, none, some 154, some 155, some 156, some 157, none, none, none, none, none, none, none, none, none, none, none, none, none, none, some 158, some 159, some 160, some 161, some 162, some 163, some 164, some 165, some 166], [], [], [], [], [], [], [], [], [], [], [], [], [], [], [], [], [], [], [], [], [], [], [], [], [], [], [], [], [], [], [], []]
abbrev am_mrT : List (List (Option Nat)) := am_mr29
def am_I0 (mi : Nat → Nat → Int32) (ml : Nat → Nat → Int64) : Prop := mi 0 12 = 0 ∧ mi 0 13 = 0 ∧ mi 0 14 = 0 ∧ mi 2 0 = 40 ∧ mi 2 1 = 40 ∧ mi 2 2 = 40 ∧ mi 2 3 = 12 ∧ mi 2 4 = 30 ∧ mi 2 5 = 0 ∧ mi 2 6 = 0 ∧ mi 2 7 = 0 ∧ (∀ k, mi 4 k = 0)
def am_I1 (mi : Nat → Nat → Int32) (ml : Nat → Nat → Int64) : Prop := (∀ k, mi 5 k = 0) ∧ (∀ k, mi 7 k = 0) ∧ (∀ k, mi 8 k = 0) ∧ mi 9 3 = 0 ∧ (∀ k, mi 10 k = 0) ∧ (∀ k, mi 11 k = 0) ∧ (∀ k, mi 12 k = 0) ∧ mi 13 5 = 0 ∧ mi 13 6 = (-1) ∧ mi 13 7 = 0 ∧ (∀ k, mi 15 k = 0) ∧ (∀ k, mi 16 k = 0)
def am_I2 (mi : Nat → Nat → Int32) (ml : Nat → Nat → Int64) : Prop := (∀ k, mi 17 k = 0) ∧ (∀ k, mi 18 k = 0) ∧ mi 19 0 = 40 ∧ mi 19 1 = 40 ∧ mi 19 2 = 40 ∧ mi 19 3 = 12 ∧ mi 19 4 = 30 ∧ mi 19 5 = 0 ∧ mi 19 6 = 0 ∧ mi 19 7 = 0 ∧ mi 20 0 = 40 ∧ mi 20 1 = 40
def am_I3 (mi : Nat → Nat → Int32) (ml : Nat → Nat → Int64) : Prop := mi 20 2 = 40 ∧ mi 20 3 = 12 ∧ mi 20 4 = 30 ∧ mi 20 5 = 0 ∧ mi 20 6 = 0 ∧ mi 20 7 = 0 ∧ mi 21 0 = 40 ∧ mi 21 1 = 40 ∧ mi 21 2 = 40 ∧ mi 21 3 = 12 ∧ mi 21 4 = 30 ∧ mi 21 5 = 0
def am_I4 (mi : Nat → Nat → Int32) (ml : Nat → Nat → Int64) : Prop := mi 21 6 = 0 ∧ mi 21 7 = 0 ∧ mi 22 0 = 40 ∧ mi 22 1 = 40 ∧ mi 22 2 = 40 ∧ mi 22 3 = 12 ∧ mi 22 4 = 30 ∧ mi 22 5 = 0 ∧ mi 22 6 = 0 ∧ mi 22 7 = 0 ∧ mi 23 0 = 40 ∧ mi 23 1 = 40
def am_I5 (mi : Nat → Nat → Int32) (ml : Nat → Nat → Int64) : Prop := mi 23 2 = 40 ∧ mi 23 3 = 12 ∧ mi 23 4 = 30 ∧ mi 23 5 = 0 ∧ mi 23 6 = 0 ∧ mi 23 7 = 0 ∧ mi 24 0 = 40 ∧ mi 24 1 = 40 ∧ mi 24 2 = 40 ∧ mi 24 3 = 12 ∧ mi 24 4 = 30 ∧ mi 24 5 = 0
def am_I6 (mi : Nat → Nat → Int32) (ml : Nat → Nat → Int64) : Prop := mi 24 6 = 0 ∧ mi 24 7 = 0 ∧ mi 25 0 = 40 ∧ mi 25 1 = 40 ∧ mi 25 2 = 40 ∧ mi 25 3 = 12 ∧ mi 25 4 = 30 ∧ mi 25 5 = 0 ∧ mi 25 6 = 0 ∧ mi 25 7 = 0 ∧ mi 26 1 = 0 ∧ (∀ k, mi 27 k = 0)
def am_I7 (mi : Nat → Nat → Int32) (ml : Nat → Nat → Int64) : Prop := mi 28 4 = 0 ∧ mi 28 5 = 0 ∧ mi 28 6 = 0 ∧ mi 28 7 = 0 ∧ mi 28 8 = 0 ∧ mi 28 9 = 0 ∧ mi 28 10 = 0 ∧ mi 28 11 = (-1) ∧ mi 28 12 = (-1) ∧ (∀ k, mi 29 k = 0) ∧ (∀ k, mi 30 k = 0) ∧ mi 31 4 = 0
def am_I8 (mi : Nat → Nat → Int32) (ml : Nat → Nat → Int64) : Prop := (∀ k, mi 32 k = 0) ∧ (∀ k, mi 34 k = 0) ∧ (∀ k, mi 35 k = 0) ∧ (∀ k, mi 36 k = 0) ∧ (∀ k, mi 37 k = 0) ∧ (∀ k, mi 38 k = 0) ∧ (∀ k, mi 39 k = 0) ∧ (∀ k, mi 40 k = 0) ∧ (∀ k, mi 41 k = 0) ∧ (∀ k, mi 43 k = 0) ∧ (∀ k, mi 44 k = 0) ∧ (∀ k, mi 45 k = 0)
def am_I9 (mi : Nat → Nat → Int32) (ml : Nat → Nat → Int64) : Prop := (∀ k, mi 46 k = 0) ∧ (∀ k, mi 47 k = 0) ∧ (∀ k, mi 48 k = 0) ∧ (∀ k, mi 49 k = 0) ∧ (∀ k, mi 50 k = 0) ∧ (∀ k, mi 52 k = 0) ∧ (∀ k, mi 53 k = 0) ∧ (∀ k, mi 54 k = 0) ∧ (∀ k, mi 55 k = 0) ∧ (∀ k, mi 56 k = 0) ∧ (∀ k, mi 57 k = 0) ∧ (∀ k, mi 58 k = 0)
def am_I10 (mi : Nat → Nat → Int32) (ml : Nat → Nat → Int64) : Prop := (∀ k, mi 59 k = 0) ∧ mi 60 3 = 0 ∧ mi 60 4 = 10 ∧ mi 60 5 = 20 ∧ ml 60 9 = (-1) ∧ mi 60 10 = (-1) ∧ (∀ k, mi 61 k = 0) ∧ (∀ k, mi 62 k = 0) ∧ (∀ k, k < 8 → mi 64 k = 50) ∧ (∀ k, k < 8 → mi 65 k = 50) ∧ (∀ k, k < 8 → mi 66 k = 50) ∧ (∀ k, k < 8 → mi 67 k = 50)
def am_I11 (mi : Nat → Nat → Int32) (ml : Nat → Nat → Int64) : Prop := (∀ k, k < 8 → mi 68 k = 50) ∧ (∀ k, k < 8 → mi 69 k = 50) ∧ (∀ k, k < 8 → mi 70 k = 50) ∧ (∀ k, k < 8 → mi 71 k = 50) ∧ (∀ k, mi 72 k = 0) ∧ (∀ k, ml 73 k = 0) ∧ (∀ k, ml 74 k = 0) ∧ ml 75 4 = 0 ∧ ml 75 5 = 0 ∧ (∀ k, mi 77 k = 0) ∧ (∀ k, mi 78 k = 0) ∧ (∀ k, mi 79 k = 0)
def am_I12 (mi : Nat → Nat → Int32) (ml : Nat → Nat → Int64) : Prop := (∀ k, mi 80 k = 0) ∧ (∀ k, mi 81 k = 0) ∧ (∀ k, mi 82 k = 0) ∧ (∀ k, mi 83 k = 0) ∧ (∀ k, mi 84 k = 0) ∧ (∀ k, mi 86 k = 0) ∧ (∀ k, mi 87 k = 0) ∧ (∀ k, mi 88 k = 0) ∧ (∀ k, mi 89 k = 0) ∧ (∀ k, mi 90 k = 0) ∧ (∀ k, mi 91 k = 0) ∧ (∀ k, mi 92 k = 0)
def am_I13 (mi : Nat → Nat → Int32) (ml : Nat → Nat → Int64) : Prop := (∀ k, mi 93 k = 0) ∧ (∀ k, ml 94 k = 0) ∧ (∀ k, ml 95 k = 0) ∧ ml 96 0 = 0 ∧ ml 96 1 = 1 ∧ mi 97 4 = 0 ∧ (∀ k, mi 98 k = 0) ∧ (∀ k, mi 100 k = 0) ∧ (∀ k, mi 101 k = 0) ∧ (∀ k, mi 102 k = 0) ∧ (∀ k, mi 103 k = 0) ∧ (∀ k, mi 104 k = 0)
def am_I14 (mi : Nat → Nat → Int32) (ml : Nat → Nat → Int64) : Prop := (∀ k, mi 105 k = 0) ∧ (∀ k, mi 106 k = 0) ∧ (∀ k, mi 107 k = 0) ∧ (∀ k, mi 109 k = 0) ∧ (∀ k, mi 110 k = 0) ∧ (∀ k, mi 111 k = 0) ∧ (∀ k, mi 112 k = 0) ∧ (∀ k, mi 113 k = 0) ∧ (∀ k, mi 114 k = 0) ∧ (∀ k, mi 115 k = 0) ∧ (∀ k, mi 116 k = 0) ∧ (∀ k, mi 118 k = 0)
def am_I15 (mi : Nat → Nat → Int32) (ml : Nat → Nat → Int64) : Prop := (∀ k, mi 119 k = 0) ∧ (∀ k, mi 120 k = 0) ∧ (∀ k, mi 121 k = 0) ∧ (∀ k, mi 122 k = 0) ∧ (∀ k, mi 123 k = 0) ∧ (∀ k, mi 124 k = 0) ∧ (∀ k, mi 125 k = 0) ∧ mi 126 0 = 40 ∧ mi 126 1 = 40 ∧ mi 126 2 = 40 ∧ mi 126 3 = 12 ∧ mi 126 4 = 30
def am_I16 (mi : Nat → Nat → Int32) (ml : Nat → Nat → Int64) : Prop := mi 126 5 = 0 ∧ mi 126 6 = 0 ∧ mi 126 7 = 0 ∧ mi 127 0 = 40 ∧ mi 127 1 = 40 ∧ mi 127 2 = 40 ∧ mi 127 3 = 12 ∧ mi 127 4 = 30 ∧ mi 127 5 = 0 ∧ mi 127 6 = 0 ∧ mi 127 7 = 0 ∧ mi 128 0 = 40
def am_I17 (mi : Nat → Nat → Int32) (ml : Nat → Nat → Int64) : Prop := mi 128 1 = 40 ∧ mi 128 2 = 40 ∧ mi 128 3 = 12 ∧ mi 128 4 = 30 ∧ mi 128 5 = 0 ∧ mi 128 6 = 0 ∧ mi 128 7 = 0 ∧ mi 129 0 = 40 ∧ mi 129 1 = 40 ∧ mi 129 2 = 40 ∧ mi 129 3 = 12 ∧ mi 129 4 = 30
def am_I18 (mi : Nat → Nat → Int32) (ml : Nat → Nat → Int64) : Prop := mi 129 5 = 0 ∧ mi 129 6 = 0 ∧ mi 129 7 = 0 ∧ mi 130 0 = 40 ∧ mi 130 1 = 40 ∧ mi 130 2 = 40 ∧ mi 130 3 = 12 ∧ mi 130 4 = 30 ∧ mi 130 5 = 0 ∧ mi 130 6 = 0 ∧ mi 130 7 = 0 ∧ mi 131 0 = 40
def am_I19 (mi : Nat → Nat → Int32) (ml : Nat → Nat → Int64) : Prop := mi 131 1 = 40 ∧ mi 131 2 = 40 ∧ mi 131 3 = 12 ∧ mi 131 4 = 30 ∧ mi 131 5 = 0 ∧ mi 131 6 = 0 ∧ mi 131 7 = 0 ∧ mi 132 0 = 40 ∧ mi 132 1 = 40 ∧ mi 132 2 = 40 ∧ mi 132 3 = 12 ∧ mi 132 4 = 30
def am_I20 (mi : Nat → Nat → Int32) (ml : Nat → Nat → Int64) : Prop := mi 132 5 = 0 ∧ mi 132 6 = 0 ∧ mi 132 7 = 0 ∧ mi 133 0 = 40 ∧ mi 133 1 = 40 ∧ mi 133 2 = 40 ∧ mi 133 3 = 12 ∧ mi 133 4 = 30 ∧ mi 133 5 = 0 ∧ mi 133 6 = 0 ∧ mi 133 7 = 0 ∧ mi 134 0 = 0
def am_I21 (mi : Nat → Nat → Int32) (ml : Nat → Nat → Int64) : Prop := mi 134 1 = 0 ∧ ml 134 2 = 0 ∧ ml 134 3 = 1 ∧ mi 134 4 = 0 ∧ mi 134 5 = 0 ∧ mi 134 14 = 0 ∧ mi 134 20 = 0 ∧ mi 134 21 = 0 ∧ mi 134 22 = 10 ∧ mi 134 23 = 20 ∧ mi 134 30 = 0 ∧ mi 134 35 = 0
def am_I22 (mi : Nat → Nat → Int32) (ml : Nat → Nat → Int64) : Prop := mi 134 36 = 0 ∧ mi 134 37 = (-1) ∧ mi 134 38 = (-1) ∧ mi 134 39 = 0 ∧ mi 134 40 = 0 ∧ mi 134 41 = 0 ∧ mi 134 42 = 0 ∧ mi 134 43 = 0 ∧ mi 134 44 = 0 ∧ mi 134 45 = 0 ∧ ml 134 46 = 0 ∧ mi 134 47 = 0
def am_I23 (mi : Nat → Nat → Int32) (ml : Nat → Nat → Int64) : Prop := mi 134 48 = 0 ∧ (∀ k, mi 135 k = 0) ∧ (∀ k, mi 136 k = 0) ∧ (∀ k, mi 137 k = 0) ∧ (∀ k, mi 138 k = 0) ∧ (∀ k, mi 139 k = 0) ∧ (∀ k, mi 140 k = 0) ∧ (∀ k, mi 141 k = 0) ∧ (∀ k, mi 142 k = 0) ∧ (∀ k, mi 143 k = 0) ∧ (∀ k, mi 144 k = 0) ∧ (∀ k, mi 145 k = 0)
def am_I24 (mi : Nat → Nat → Int32) (ml : Nat → Nat → Int64) : Prop := (∀ k, mi 146 k = 0) ∧ (∀ k, mi 147 k = 0) ∧ (∀ k, mi 148 k = 0) ∧ (∀ k, mi 149 k = 0) ∧ (∀ k, mi 150 k = 0) ∧ (∀ k, mi 151 k = 0) ∧ (∀ k, mi 152 k = 0) ∧ (∀ k, mi 153 k = 0) ∧ (∀ k, mi 154 k = 0) ∧ (∀ k, mi 155 k = 0) ∧ (∀ k, mi 156 k = 0) ∧ (∀ k, mi 157 k = 0)
def am_I25 (mi : Nat → Nat → Int32) (ml : Nat → Nat → Int64) : Prop := (∀ k, mi 158 k = 0) ∧ (∀ k, mi 159 k = 0) ∧ (∀ k, mi 160 k = 0) ∧ (∀ k, mi 161 k = 0) ∧ (∀ k, mi 162 k = 0) ∧ (∀ k, mi 163 k = 0) ∧ (∀ k, mi 164 k = 0) ∧ (∀ k, mi 165 k = 0) ∧ (∀ k, ml 166 k = 0)
def am_Init (mi : Nat → Nat → Int32) (ml : Nat → Nat → Int64) : Prop := am_I0 mi ml ∧ am_I1 mi ml ∧ am_I2 mi ml ∧ am_I3 mi ml ∧ am_I4 mi ml ∧ am_I5 mi ml ∧ am_I6 mi ml ∧ am_I7 mi ml ∧ am_I8 mi ml ∧ am_I9 mi ml ∧ am_I10 mi ml ∧ am_I11 mi ml ∧ am_I12 mi ml ∧ am_I13 mi ml ∧ am_I14 mi ml ∧ am_I15 mi ml ∧ am_I16 mi ml ∧ am_I17 mi ml ∧ am_I18 mi ml ∧ am_I19 mi ml ∧ am_I20 mi ml ∧ am_I21 mi ml ∧ am_I22 mi ml ∧ am_I23 mi ml ∧ am_I24 mi ml ∧ am_I25 mi ml
set_option maxRecDepth 100000 in
set_option maxHeartbeats 40000000 in
theorem am_ctor {X : Nat × (Nat → Int32)} {Q : Option Value → am_M → Prop} (hk : ∀ mi ml, am_Init mi ml → am_wp X 30 204 10 [.ref 1000050, .ref 0, .ref 134, .int 0] [] (am_shT, am_mrT, mi, ml) Q) : am_wp X 30 204 0 [.ref 1000050, .retAddr 0, .retAddr 0, .retAddr 0] [] am_M0 Q := by
  unfold am_M0
  refine am_norm (sh' := am_shT.take 0) (mr' := []) rfl rfl ?_
  refine wi_new rfl rfl (q := 0) rfl (n := 15) rfl ?_
  refine wi_dup rfl rfl ?_
  refine wi_callI0 rfl (by decide) (by decide) rfl rfl rfl rfl rfl ?_
  refine wi_aload_n rfl rfl ?_
  refine wi_obj rfl rfl ?_
  refine wi_aload_n rfl rfl ?_
  refine wi_bipush (x := 8) rfl rfl ?_
  refine wi_anewarray rfl ⟨by decide, by decide⟩ (n := 8) rfl (q := 1) rfl ?_
  refine wi_putR rfl ⟨rfl, Nat.le_of_ble_eq_true rfl, Nat.le_of_ble_eq_true rfl⟩ rfl ?_
  refine wi_aload_n rfl rfl ?_
  refine wi_new rfl rfl (q := 2) rfl (n := 8) rfl ?_
  refine wi_dup rfl rfl ?_
  refine wi_callI0 rfl (by decide) (by decide) rfl rfl rfl rfl rfl ?_
  refine wi_aload_n rfl rfl ?_
  refine wi_obj rfl rfl ?_
  refine wi_aload_n rfl rfl ?_
  refine wi_bipush (x := 40) rfl rfl ?_
  refine wi_putI rfl rfl ?_
  refine wi_aload_n rfl rfl ?_
  refine wi_bipush (x := 40) rfl rfl ?_
  refine wi_putI rfl rfl ?_
  refine wi_aload_n rfl rfl ?_
  refine wi_bipush (x := 40) rfl rfl ?_
  refine wi_putI rfl rfl ?_
  refine wi_aload_n rfl rfl ?_
  refine wi_bipush (x := 12) rfl rfl ?_
  refine wi_putI rfl rfl ?_
  refine wi_aload_n rfl rfl ?_
  refine wi_bipush (x := 30) rfl rfl ?_
  refine wi_putI rfl rfl ?_
  refine wi_aload_n rfl rfl ?_
  refine wi_iconst (x := 0) rfl rfl ?_
  refine wi_putI rfl rfl ?_
  refine wi_aload_n rfl rfl ?_
  refine wi_iconst (x := 0) rfl rfl ?_
  refine wi_putI rfl rfl ?_
  refine wi_aload_n rfl rfl ?_
  refine wi_iconst (x := 0) rfl rfl ?_
  refine wi_putI rfl rfl ?_
  refine wi_ret rfl ?_
  refine wi_putR rfl ⟨rfl, Nat.le_of_ble_eq_true rfl, Nat.le_of_ble_eq_true rfl⟩ rfl ?_
  refine wi_aload_n rfl rfl ?_
  refine wi_new rfl rfl (q := 3) rfl (n := 2) rfl ?_
  refine wi_dup rfl rfl ?_
  refine wi_callI0 rfl (by decide) (by decide) rfl rfl rfl rfl rfl ?_
  refine wi_aload_n rfl rfl ?_
  refine wi_obj rfl rfl ?_
  refine wi_aload_n rfl rfl ?_
  refine wi_sipush (x := 1000) rfl rfl ?_
  refine wi_newarray rfl ⟨by decide, by decide, by decide⟩ (t := 100) rfl (n := 1000) rfl (q := 4) rfl ?_
  refine wi_putR rfl ⟨rfl, Nat.le_of_ble_eq_true rfl, Nat.le_of_ble_eq_true rfl⟩ rfl ?_
  refine am_norm (sh' := am_shT.take 5) (mr' := am_mr0) rfl rfl ?_
  refine wi_aload_n rfl rfl ?_
  refine wi_sipush (x := 1000) rfl rfl ?_
  refine wi_newarray rfl ⟨by decide, by decide, by decide⟩ (t := 100) rfl (n := 1000) rfl (q := 5) rfl ?_
  refine wi_putR rfl ⟨rfl, Nat.le_of_ble_eq_true rfl, Nat.le_of_ble_eq_true rfl⟩ rfl ?_
  refine wi_ret rfl ?_
  refine wi_putR rfl ⟨rfl, Nat.le_of_ble_eq_true rfl, Nat.le_of_ble_eq_true rfl⟩ rfl ?_
  refine wi_aload_n rfl rfl ?_
  refine wi_new rfl rfl (q := 6) rfl (n := 2) rfl ?_
  refine wi_dup rfl rfl ?_
  refine wi_callI0 rfl (by decide) (by decide) rfl rfl rfl rfl rfl ?_
  refine wi_aload_n rfl rfl ?_
  refine wi_obj rfl rfl ?_
  refine wi_aload_n rfl rfl ?_
  refine wi_sipush (x := 1000) rfl rfl ?_
  refine wi_newarray rfl ⟨by decide, by decide, by decide⟩ (t := 100) rfl (n := 1000) rfl (q := 7) rfl ?_
  refine wi_putR rfl ⟨rfl, Nat.le_of_ble_eq_true rfl, Nat.le_of_ble_eq_true rfl⟩ rfl ?_
  refine wi_aload_n rfl rfl ?_
  refine wi_sipush (x := 1000) rfl rfl ?_
  refine wi_newarray rfl ⟨by decide, by decide, by decide⟩ (t := 100) rfl (n := 1000) rfl (q := 8) rfl ?_
  refine wi_putR rfl ⟨rfl, Nat.le_of_ble_eq_true rfl, Nat.le_of_ble_eq_true rfl⟩ rfl ?_
  refine am_norm (sh' := am_shT.take 9) (mr' := am_mr1) rfl rfl ?_
  refine wi_ret rfl ?_
  refine wi_putR rfl ⟨rfl, Nat.le_of_ble_eq_true rfl, Nat.le_of_ble_eq_true rfl⟩ rfl ?_
  refine wi_aload_n rfl rfl ?_
  refine wi_new rfl rfl (q := 9) rfl (n := 4) rfl ?_
  refine wi_dup rfl rfl ?_
  refine wi_callI0 rfl (by decide) (by decide) rfl rfl rfl rfl rfl ?_
  refine wi_aload_n rfl rfl ?_
  refine wi_obj rfl rfl ?_
  refine wi_aload_n rfl rfl ?_
  refine wi_sipush (x := 200) rfl rfl ?_
  refine wi_newarray rfl ⟨by decide, by decide, by decide⟩ (t := 100) rfl (n := 200) rfl (q := 10) rfl ?_
  refine wi_putR rfl ⟨rfl, Nat.le_of_ble_eq_true rfl, Nat.le_of_ble_eq_true rfl⟩ rfl ?_
  refine wi_aload_n rfl rfl ?_
  refine wi_sipush (x := 200) rfl rfl ?_
  refine wi_newarray rfl ⟨by decide, by decide, by decide⟩ (t := 100) rfl (n := 200) rfl (q := 11) rfl ?_
  refine wi_putR rfl ⟨rfl, Nat.le_of_ble_eq_true rfl, Nat.le_of_ble_eq_true rfl⟩ rfl ?_
  refine wi_aload_n rfl rfl ?_
  refine wi_sipush (x := 200) rfl rfl ?_
  refine wi_newarray rfl ⟨by decide, by decide, by decide⟩ (t := 100) rfl (n := 200) rfl (q := 12) rfl ?_
  refine wi_putR rfl ⟨rfl, Nat.le_of_ble_eq_true rfl, Nat.le_of_ble_eq_true rfl⟩ rfl ?_
  refine am_norm (sh' := am_shT.take 13) (mr' := am_mr2) rfl rfl ?_
  refine wi_aload_n rfl rfl ?_
  refine wi_iconst (x := 0) rfl rfl ?_
  refine wi_putI rfl rfl ?_
  refine wi_ret rfl ?_
  refine wi_putR rfl ⟨rfl, Nat.le_of_ble_eq_true rfl, Nat.le_of_ble_eq_true rfl⟩ rfl ?_
  refine wi_aload_n rfl rfl ?_
  refine wi_new rfl rfl (q := 13) rfl (n := 8) rfl ?_
  refine wi_dup rfl rfl ?_
  refine wi_callI0 rfl (by decide) (by decide) rfl rfl rfl rfl rfl ?_
  refine wi_aload_n rfl rfl ?_
  refine wi_obj rfl rfl ?_
  refine wi_aload_n rfl rfl ?_
  refine wi_bipush (x := 7) rfl rfl ?_
  refine wi_anewarray rfl ⟨by decide, by decide⟩ (n := 7) rfl (q := 14) rfl ?_
  refine wi_putR rfl ⟨rfl, Nat.le_of_ble_eq_true rfl, Nat.le_of_ble_eq_true rfl⟩ rfl ?_
  refine wi_aload_n rfl rfl ?_
  refine wi_bipush (x := 6) rfl rfl ?_
  refine wi_newarray rfl ⟨by decide, by decide, by decide⟩ (t := 100) rfl (n := 6) rfl (q := 15) rfl ?_
  refine wi_putR rfl ⟨rfl, Nat.le_of_ble_eq_true rfl, Nat.le_of_ble_eq_true rfl⟩ rfl ?_
  refine wi_aload_n rfl rfl ?_
  refine wi_bipush (x := 6) rfl rfl ?_
  refine wi_newarray rfl ⟨by decide, by decide, by decide⟩ (t := 100) rfl (n := 6) rfl (q := 16) rfl ?_
  refine wi_putR rfl ⟨rfl, Nat.le_of_ble_eq_true rfl, Nat.le_of_ble_eq_true rfl⟩ rfl ?_
  refine am_norm (sh' := am_shT.take 17) (mr' := am_mr3) rfl rfl ?_
  refine wi_aload_n rfl rfl ?_
  refine wi_bipush (x := 6) rfl rfl ?_
  refine wi_newarray rfl ⟨by decide, by decide, by decide⟩ (t := 100) rfl (n := 6) rfl (q := 17) rfl ?_
  refine wi_putR rfl ⟨rfl, Nat.le_of_ble_eq_true rfl, Nat.le_of_ble_eq_true rfl⟩ rfl ?_
  refine wi_aload_n rfl rfl ?_
  refine wi_bipush (x := 6) rfl rfl ?_
  refine wi_newarray rfl ⟨by decide, by decide, by decide⟩ (t := 100) rfl (n := 6) rfl (q := 18) rfl ?_
  refine wi_putR rfl ⟨rfl, Nat.le_of_ble_eq_true rfl, Nat.le_of_ble_eq_true rfl⟩ rfl ?_
  refine wi_aload_n rfl rfl ?_
  refine wi_iconst (x := 0) rfl rfl ?_
  refine wi_putI rfl rfl ?_
  refine wi_aload_n rfl rfl ?_
  refine wi_iconst (x := (-1)) rfl rfl ?_
  refine wi_putI rfl rfl ?_
  refine wi_aload_n rfl rfl ?_
  refine wi_iconst (x := 0) rfl rfl ?_
  refine wi_putI rfl rfl ?_
  refine wi_iconst (x := 0) rfl rfl ?_
  refine wi_istore_n rfl (Nat.le_of_ble_eq_true rfl) rfl rfl ?_
  refine wi_iload_n rfl rfl ?_
  refine wi_bipush (x := 6) rfl rfl ?_
  refine wi_brF rfl rfl ?_
  refine wi_aload_n rfl rfl ?_
  refine wi_getR rfl rfl rfl ?_
  refine wi_iload_n rfl rfl ?_
  refine wi_new rfl rfl (q := 19) rfl (n := 8) rfl ?_
  refine wi_dup rfl rfl ?_
  refine wi_callI0 rfl (by decide) (by decide) rfl rfl rfl rfl rfl ?_
  refine wi_aload_n rfl rfl ?_
  refine wi_obj rfl rfl ?_
  refine wi_aload_n rfl rfl ?_
  refine wi_bipush (x := 40) rfl rfl ?_
  refine wi_putI rfl rfl ?_
  refine wi_aload_n rfl rfl ?_
  refine wi_bipush (x := 40) rfl rfl ?_
  refine wi_putI rfl rfl ?_
  refine wi_aload_n rfl rfl ?_
  refine wi_bipush (x := 40) rfl rfl ?_
  refine wi_putI rfl rfl ?_
  refine wi_aload_n rfl rfl ?_
  refine wi_bipush (x := 12) rfl rfl ?_
  refine wi_putI rfl rfl ?_
  refine wi_aload_n rfl rfl ?_
  refine wi_bipush (x := 30) rfl rfl ?_
  refine wi_putI rfl rfl ?_
  refine wi_aload_n rfl rfl ?_
  refine wi_iconst (x := 0) rfl rfl ?_
  refine wi_putI rfl rfl ?_
  refine wi_aload_n rfl rfl ?_
  refine wi_iconst (x := 0) rfl rfl ?_
  refine wi_putI rfl rfl ?_
  refine wi_aload_n rfl rfl ?_
  refine wi_iconst (x := 0) rfl rfl ?_
  refine wi_putI rfl rfl ?_
  refine wi_ret rfl ?_
  refine wi_aastore rfl rfl rfl (q := 0) rfl ⟨rfl, by decide, by decide⟩ ?_
  refine wi_iinc (z := 1) rfl rfl rfl rfl rfl ?_
  refine wi_goto rfl ?_
  refine wi_iload_n rfl rfl ?_
  refine wi_bipush (x := 6) rfl rfl ?_
  refine wi_brF rfl rfl ?_
  refine wi_aload_n rfl rfl ?_
  refine wi_getR rfl rfl rfl ?_
  refine wi_iload_n rfl rfl ?_
  refine wi_new rfl rfl (q := 20) rfl (n := 8) rfl ?_
  refine wi_dup rfl rfl ?_
  refine wi_callI0 rfl (by decide) (by decide) rfl rfl rfl rfl rfl ?_
  refine wi_aload_n rfl rfl ?_
  refine wi_obj rfl rfl ?_
  refine wi_aload_n rfl rfl ?_
  refine wi_bipush (x := 40) rfl rfl ?_
  refine wi_putI rfl rfl ?_
  refine wi_aload_n rfl rfl ?_
  refine wi_bipush (x := 40) rfl rfl ?_
  refine wi_putI rfl rfl ?_
  refine wi_aload_n rfl rfl ?_
  refine wi_bipush (x := 40) rfl rfl ?_
  refine wi_putI rfl rfl ?_
  refine wi_aload_n rfl rfl ?_
  refine wi_bipush (x := 12) rfl rfl ?_
  refine wi_putI rfl rfl ?_
  refine wi_aload_n rfl rfl ?_
  refine wi_bipush (x := 30) rfl rfl ?_
  refine wi_putI rfl rfl ?_
  refine wi_aload_n rfl rfl ?_
  refine wi_iconst (x := 0) rfl rfl ?_
  refine wi_putI rfl rfl ?_
  refine wi_aload_n rfl rfl ?_
  refine wi_iconst (x := 0) rfl rfl ?_
  refine wi_putI rfl rfl ?_
  refine wi_aload_n rfl rfl ?_
  refine wi_iconst (x := 0) rfl rfl ?_
  refine wi_putI rfl rfl ?_
  refine wi_ret rfl ?_
  refine wi_aastore rfl rfl rfl (q := 1) rfl ⟨rfl, by decide, by decide⟩ ?_
  refine am_norm (sh' := am_shT.take 21) (mr' := am_mr4) rfl rfl ?_
  refine wi_iinc (z := 2) rfl rfl rfl rfl rfl ?_
  refine wi_goto rfl ?_
  refine wi_iload_n rfl rfl ?_
  refine wi_bipush (x := 6) rfl rfl ?_
  refine wi_brF rfl rfl ?_
  refine wi_aload_n rfl rfl ?_
  refine wi_getR rfl rfl rfl ?_
  refine wi_iload_n rfl rfl ?_
  refine wi_new rfl rfl (q := 21) rfl (n := 8) rfl ?_
  refine wi_dup rfl rfl ?_
  refine wi_callI0 rfl (by decide) (by decide) rfl rfl rfl rfl rfl ?_
  refine wi_aload_n rfl rfl ?_
  refine wi_obj rfl rfl ?_
  refine wi_aload_n rfl rfl ?_
  refine wi_bipush (x := 40) rfl rfl ?_
  refine wi_putI rfl rfl ?_
  refine wi_aload_n rfl rfl ?_
  refine wi_bipush (x := 40) rfl rfl ?_
  refine wi_putI rfl rfl ?_
  refine wi_aload_n rfl rfl ?_
  refine wi_bipush (x := 40) rfl rfl ?_
  refine wi_putI rfl rfl ?_
  refine wi_aload_n rfl rfl ?_
  refine wi_bipush (x := 12) rfl rfl ?_
  refine wi_putI rfl rfl ?_
  refine wi_aload_n rfl rfl ?_
  refine wi_bipush (x := 30) rfl rfl ?_
  refine wi_putI rfl rfl ?_
  refine wi_aload_n rfl rfl ?_
  refine wi_iconst (x := 0) rfl rfl ?_
  refine wi_putI rfl rfl ?_
  refine wi_aload_n rfl rfl ?_
  refine wi_iconst (x := 0) rfl rfl ?_
  refine wi_putI rfl rfl ?_
  refine wi_aload_n rfl rfl ?_
  refine wi_iconst (x := 0) rfl rfl ?_
  refine wi_putI rfl rfl ?_
  refine wi_ret rfl ?_
  refine wi_aastore rfl rfl rfl (q := 2) rfl ⟨rfl, by decide, by decide⟩ ?_
  refine wi_iinc (z := 3) rfl rfl rfl rfl rfl ?_
  refine wi_goto rfl ?_
  refine wi_iload_n rfl rfl ?_
  refine wi_bipush (x := 6) rfl rfl ?_
  refine wi_brF rfl rfl ?_
  refine wi_aload_n rfl rfl ?_
  refine wi_getR rfl rfl rfl ?_
  refine wi_iload_n rfl rfl ?_
  refine wi_new rfl rfl (q := 22) rfl (n := 8) rfl ?_
  refine wi_dup rfl rfl ?_
  refine wi_callI0 rfl (by decide) (by decide) rfl rfl rfl rfl rfl ?_
  refine wi_aload_n rfl rfl ?_
  refine wi_obj rfl rfl ?_
  refine wi_aload_n rfl rfl ?_
  refine wi_bipush (x := 40) rfl rfl ?_
  refine wi_putI rfl rfl ?_
  refine wi_aload_n rfl rfl ?_
  refine wi_bipush (x := 40) rfl rfl ?_
  refine wi_putI rfl rfl ?_
  refine wi_aload_n rfl rfl ?_
  refine wi_bipush (x := 40) rfl rfl ?_
  refine wi_putI rfl rfl ?_
  refine wi_aload_n rfl rfl ?_
  refine wi_bipush (x := 12) rfl rfl ?_
  refine wi_putI rfl rfl ?_
  refine wi_aload_n rfl rfl ?_
  refine wi_bipush (x := 30) rfl rfl ?_
  refine wi_putI rfl rfl ?_
  refine wi_aload_n rfl rfl ?_
  refine wi_iconst (x := 0) rfl rfl ?_
  refine wi_putI rfl rfl ?_
  refine wi_aload_n rfl rfl ?_
  refine wi_iconst (x := 0) rfl rfl ?_
  refine wi_putI rfl rfl ?_
  refine wi_aload_n rfl rfl ?_
  refine wi_iconst (x := 0) rfl rfl ?_
  refine wi_putI rfl rfl ?_
  refine wi_ret rfl ?_
  refine wi_aastore rfl rfl rfl (q := 3) rfl ⟨rfl, by decide, by decide⟩ ?_
  refine wi_iinc (z := 4) rfl rfl rfl rfl rfl ?_
  refine wi_goto rfl ?_
  refine wi_iload_n rfl rfl ?_
  refine wi_bipush (x := 6) rfl rfl ?_
  refine wi_brF rfl rfl ?_
  refine wi_aload_n rfl rfl ?_
  refine wi_getR rfl rfl rfl ?_
  refine wi_iload_n rfl rfl ?_
  refine wi_new rfl rfl (q := 23) rfl (n := 8) rfl ?_
  refine wi_dup rfl rfl ?_
  refine wi_callI0 rfl (by decide) (by decide) rfl rfl rfl rfl rfl ?_
  refine wi_aload_n rfl rfl ?_
  refine wi_obj rfl rfl ?_
  refine wi_aload_n rfl rfl ?_
  refine wi_bipush (x := 40) rfl rfl ?_
  refine wi_putI rfl rfl ?_
  refine wi_aload_n rfl rfl ?_
  refine wi_bipush (x := 40) rfl rfl ?_
  refine wi_putI rfl rfl ?_
  refine wi_aload_n rfl rfl ?_
  refine wi_bipush (x := 40) rfl rfl ?_
  refine wi_putI rfl rfl ?_
  refine wi_aload_n rfl rfl ?_
  refine wi_bipush (x := 12) rfl rfl ?_
  refine wi_putI rfl rfl ?_
  refine wi_aload_n rfl rfl ?_
  refine wi_bipush (x := 30) rfl rfl ?_
  refine wi_putI rfl rfl ?_
  refine wi_aload_n rfl rfl ?_
  refine wi_iconst (x := 0) rfl rfl ?_
  refine wi_putI rfl rfl ?_
  refine wi_aload_n rfl rfl ?_
  refine wi_iconst (x := 0) rfl rfl ?_
  refine wi_putI rfl rfl ?_
  refine wi_aload_n rfl rfl ?_
  refine wi_iconst (x := 0) rfl rfl ?_
  refine wi_putI rfl rfl ?_
  refine wi_ret rfl ?_
  refine wi_aastore rfl rfl rfl (q := 4) rfl ⟨rfl, by decide, by decide⟩ ?_
  refine wi_iinc (z := 5) rfl rfl rfl rfl rfl ?_
  refine wi_goto rfl ?_
  refine wi_iload_n rfl rfl ?_
  refine wi_bipush (x := 6) rfl rfl ?_
  refine wi_brF rfl rfl ?_
  refine wi_aload_n rfl rfl ?_
  refine wi_getR rfl rfl rfl ?_
  refine wi_iload_n rfl rfl ?_
  refine wi_new rfl rfl (q := 24) rfl (n := 8) rfl ?_
  refine wi_dup rfl rfl ?_
  refine wi_callI0 rfl (by decide) (by decide) rfl rfl rfl rfl rfl ?_
  refine wi_aload_n rfl rfl ?_
  refine wi_obj rfl rfl ?_
  refine wi_aload_n rfl rfl ?_
  refine wi_bipush (x := 40) rfl rfl ?_
  refine wi_putI rfl rfl ?_
  refine wi_aload_n rfl rfl ?_
  refine wi_bipush (x := 40) rfl rfl ?_
  refine wi_putI rfl rfl ?_
  refine wi_aload_n rfl rfl ?_
  refine wi_bipush (x := 40) rfl rfl ?_
  refine wi_putI rfl rfl ?_
  refine wi_aload_n rfl rfl ?_
  refine wi_bipush (x := 12) rfl rfl ?_
  refine wi_putI rfl rfl ?_
  refine wi_aload_n rfl rfl ?_
  refine wi_bipush (x := 30) rfl rfl ?_
  refine wi_putI rfl rfl ?_
  refine wi_aload_n rfl rfl ?_
  refine wi_iconst (x := 0) rfl rfl ?_
  refine wi_putI rfl rfl ?_
  refine wi_aload_n rfl rfl ?_
  refine wi_iconst (x := 0) rfl rfl ?_
  refine wi_putI rfl rfl ?_
  refine wi_aload_n rfl rfl ?_
  refine wi_iconst (x := 0) rfl rfl ?_
  refine wi_putI rfl rfl ?_
  refine wi_ret rfl ?_
  refine wi_aastore rfl rfl rfl (q := 5) rfl ⟨rfl, by decide, by decide⟩ ?_
  refine am_norm (sh' := am_shT.take 25) (mr' := am_mr5) rfl rfl ?_
  refine wi_iinc (z := 6) rfl rfl rfl rfl rfl ?_
  refine wi_goto rfl ?_
  refine wi_iload_n rfl rfl ?_
  refine wi_bipush (x := 6) rfl rfl ?_
  refine wi_brF rfl rfl ?_
  refine wi_aload_n rfl rfl ?_
  refine wi_getR rfl rfl rfl ?_
  refine wi_iload_n rfl rfl ?_
  refine wi_new rfl rfl (q := 25) rfl (n := 8) rfl ?_
  refine wi_dup rfl rfl ?_
  refine wi_callI0 rfl (by decide) (by decide) rfl rfl rfl rfl rfl ?_
  refine wi_aload_n rfl rfl ?_
  refine wi_obj rfl rfl ?_
  refine wi_aload_n rfl rfl ?_
  refine wi_bipush (x := 40) rfl rfl ?_
  refine wi_putI rfl rfl ?_
  refine wi_aload_n rfl rfl ?_
  refine wi_bipush (x := 40) rfl rfl ?_
  refine wi_putI rfl rfl ?_
  refine wi_aload_n rfl rfl ?_
  refine wi_bipush (x := 40) rfl rfl ?_
  refine wi_putI rfl rfl ?_
  refine wi_aload_n rfl rfl ?_
  refine wi_bipush (x := 12) rfl rfl ?_
  refine wi_putI rfl rfl ?_
  refine wi_aload_n rfl rfl ?_
  refine wi_bipush (x := 30) rfl rfl ?_
  refine wi_putI rfl rfl ?_
  refine wi_aload_n rfl rfl ?_
  refine wi_iconst (x := 0) rfl rfl ?_
  refine wi_putI rfl rfl ?_
  refine wi_aload_n rfl rfl ?_
  refine wi_iconst (x := 0) rfl rfl ?_
  refine wi_putI rfl rfl ?_
  refine wi_aload_n rfl rfl ?_
  refine wi_iconst (x := 0) rfl rfl ?_
  refine wi_putI rfl rfl ?_
  refine wi_ret rfl ?_
  refine wi_aastore rfl rfl rfl (q := 6) rfl ⟨rfl, by decide, by decide⟩ ?_
  refine wi_iinc (z := 7) rfl rfl rfl rfl rfl ?_
  refine wi_goto rfl ?_
  refine wi_iload_n rfl rfl ?_
  refine wi_bipush (x := 6) rfl rfl ?_
  refine wi_brT rfl rfl ?_
  refine wi_ret rfl ?_
  refine wi_putR rfl ⟨rfl, Nat.le_of_ble_eq_true rfl, Nat.le_of_ble_eq_true rfl⟩ rfl ?_
  refine wi_aload_n rfl rfl ?_
  refine wi_new rfl rfl (q := 26) rfl (n := 2) rfl ?_
  refine wi_dup rfl rfl ?_
  refine wi_callI0 rfl (by decide) (by decide) rfl rfl rfl rfl rfl ?_
  refine wi_aload_n rfl rfl ?_
  refine wi_obj rfl rfl ?_
  refine wi_aload_n rfl rfl ?_
  refine wi_sipush (x := 400) rfl rfl ?_
  refine wi_newarray rfl ⟨by decide, by decide, by decide⟩ (t := 100) rfl (n := 400) rfl (q := 27) rfl ?_
  refine wi_putR rfl ⟨rfl, Nat.le_of_ble_eq_true rfl, Nat.le_of_ble_eq_true rfl⟩ rfl ?_
  refine wi_aload_n rfl rfl ?_
  refine wi_iconst (x := 0) rfl rfl ?_
  refine wi_putI rfl rfl ?_
  refine wi_ret rfl ?_
  refine wi_putR rfl ⟨rfl, Nat.le_of_ble_eq_true rfl, Nat.le_of_ble_eq_true rfl⟩ rfl ?_
  refine wi_aload_n rfl rfl ?_
  refine wi_new rfl rfl (q := 28) rfl (n := 13) rfl ?_
  refine am_norm (sh' := am_shT.take 29) (mr' := am_mr6) rfl rfl ?_
  refine wi_dup rfl rfl ?_
  refine wi_aload_n rfl rfl ?_
  refine wi_getR rfl rfl rfl ?_
  refine wi_callI1 rfl (by decide) (by decide) rfl rfl rfl rfl rfl ?_
  refine wi_aload_n rfl rfl ?_
  refine wi_obj rfl rfl ?_
  refine wi_aload_n rfl rfl ?_
  refine wi_bipush (x := 8) rfl rfl ?_
  refine wi_newarray rfl ⟨by decide, by decide, by decide⟩ (t := 100) rfl (n := 8) rfl (q := 29) rfl ?_
  refine wi_putR rfl ⟨rfl, Nat.le_of_ble_eq_true rfl, Nat.le_of_ble_eq_true rfl⟩ rfl ?_
  refine wi_aload_n rfl rfl ?_
  refine wi_bipush (x := 8) rfl rfl ?_
  refine wi_newarray rfl ⟨by decide, by decide, by decide⟩ (t := 100) rfl (n := 8) rfl (q := 30) rfl ?_
  refine wi_putR rfl ⟨rfl, Nat.le_of_ble_eq_true rfl, Nat.le_of_ble_eq_true rfl⟩ rfl ?_
  refine wi_aload_n rfl rfl ?_
  refine wi_new rfl rfl (q := 31) rfl (n := 5) rfl ?_
  refine wi_dup rfl rfl ?_
  refine wi_callI0 rfl (by decide) (by decide) rfl rfl rfl rfl rfl ?_
  refine wi_aload_n rfl rfl ?_
  refine wi_obj rfl rfl ?_
  refine wi_aload_n rfl rfl ?_
  refine wi_bipush (x := 8) rfl rfl ?_
  refine wi_newarray rfl ⟨by decide, by decide, by decide⟩ (t := 100) rfl (n := 8) rfl (q := 32) rfl ?_
  refine wi_putR rfl ⟨rfl, Nat.le_of_ble_eq_true rfl, Nat.le_of_ble_eq_true rfl⟩ rfl ?_
  refine wi_aload_n rfl rfl ?_
  refine wi_bipush (x := 8) rfl rfl ?_
  refine wi_bipush (x := 6) rfl rfl ?_
  refine wi_mna rfl ⟨by decide, by decide, by decide, by decide⟩ (n := 8) rfl (m := 6) rfl (q := 33) rfl ?_
  refine am_norm (sh' := am_shT.take 42) (mr' := am_mr7) rfl rfl ?_
  refine wi_putR rfl ⟨rfl, Nat.le_of_ble_eq_true rfl, Nat.le_of_ble_eq_true rfl⟩ rfl ?_
  refine wi_aload_n rfl rfl ?_
  refine wi_bipush (x := 8) rfl rfl ?_
  refine wi_bipush (x := 6) rfl rfl ?_
  refine wi_mna rfl ⟨by decide, by decide, by decide, by decide⟩ (n := 8) rfl (m := 6) rfl (q := 42) rfl ?_
  refine am_norm (sh' := am_shT.take 51) (mr' := am_mr8) rfl rfl ?_
  refine wi_putR rfl ⟨rfl, Nat.le_of_ble_eq_true rfl, Nat.le_of_ble_eq_true rfl⟩ rfl ?_
  refine wi_aload_n rfl rfl ?_
  refine wi_bipush (x := 8) rfl rfl ?_
  refine wi_bipush (x := 6) rfl rfl ?_
  refine wi_mna rfl ⟨by decide, by decide, by decide, by decide⟩ (n := 8) rfl (m := 6) rfl (q := 51) rfl ?_
  refine am_norm (sh' := am_shT.take 60) (mr' := am_mr9) rfl rfl ?_
  refine wi_putR rfl ⟨rfl, Nat.le_of_ble_eq_true rfl, Nat.le_of_ble_eq_true rfl⟩ rfl ?_
  refine wi_aload_n rfl rfl ?_
  refine wi_iconst (x := 0) rfl rfl ?_
  refine wi_putI rfl rfl ?_
  refine wi_ret rfl ?_
  refine wi_putR rfl ⟨rfl, Nat.le_of_ble_eq_true rfl, Nat.le_of_ble_eq_true rfl⟩ rfl ?_
  refine wi_aload_n rfl rfl ?_
  refine wi_iconst (x := 0) rfl rfl ?_
  refine wi_putI rfl rfl ?_
  refine wi_aload_n rfl rfl ?_
  refine wi_iconst (x := 0) rfl rfl ?_
  refine wi_putI rfl rfl ?_
  refine wi_aload_n rfl rfl ?_
  refine wi_iconst (x := 0) rfl rfl ?_
  refine wi_putI rfl rfl ?_
  refine wi_aload_n rfl rfl ?_
  refine wi_iconst (x := 0) rfl rfl ?_
  refine wi_putI rfl rfl ?_
  refine wi_aload_n rfl rfl ?_
  refine wi_iconst (x := 0) rfl rfl ?_
  refine wi_putI rfl rfl ?_
  refine wi_aload_n rfl rfl ?_
  refine wi_iconst (x := 0) rfl rfl ?_
  refine wi_putI rfl rfl ?_
  refine wi_aload_n rfl rfl ?_
  refine wi_iconst (x := 0) rfl rfl ?_
  refine wi_putI rfl rfl ?_
  refine wi_aload_n rfl rfl ?_
  refine wi_iconst (x := (-1)) rfl rfl ?_
  refine wi_putI rfl rfl ?_
  refine wi_aload_n rfl rfl ?_
  refine wi_iconst (x := (-1)) rfl rfl ?_
  refine wi_putI rfl rfl ?_
  refine wi_aload_n rfl rfl ?_
  refine wi_aload_n rfl rfl ?_
  refine wi_putR rfl ⟨rfl, Nat.le_of_ble_eq_true rfl, Nat.le_of_ble_eq_true rfl⟩ rfl ?_
  refine wi_ret rfl ?_
  refine wi_putR rfl ⟨rfl, Nat.le_of_ble_eq_true rfl, Nat.le_of_ble_eq_true rfl⟩ rfl ?_
  refine wi_aload_n rfl rfl ?_
  refine wi_new rfl rfl (q := 60) rfl (n := 11) rfl ?_
  refine wi_dup rfl rfl ?_
  refine wi_callI0 rfl (by decide) (by decide) rfl rfl rfl rfl rfl ?_
  refine wi_aload_n rfl rfl ?_
  refine wi_obj rfl rfl ?_
  refine wi_aload_n rfl rfl ?_
  refine wi_bipush (x := 8) rfl rfl ?_
  refine wi_newarray rfl ⟨by decide, by decide, by decide⟩ (t := 100) rfl (n := 8) rfl (q := 61) rfl ?_
  refine wi_putR rfl ⟨rfl, Nat.le_of_ble_eq_true rfl, Nat.le_of_ble_eq_true rfl⟩ rfl ?_
  refine wi_aload_n rfl rfl ?_
  refine wi_bipush (x := 8) rfl rfl ?_
  refine wi_newarray rfl ⟨by decide, by decide, by decide⟩ (t := 100) rfl (n := 8) rfl (q := 62) rfl ?_
  refine am_norm (sh' := am_shT.take 63) (mr' := am_mr10) rfl rfl ?_
  refine wi_putR rfl ⟨rfl, Nat.le_of_ble_eq_true rfl, Nat.le_of_ble_eq_true rfl⟩ rfl ?_
  refine wi_aload_n rfl rfl ?_
  refine wi_bipush (x := 8) rfl rfl ?_
  refine wi_bipush (x := 8) rfl rfl ?_
  refine wi_mna rfl ⟨by decide, by decide, by decide, by decide⟩ (n := 8) rfl (m := 8) rfl (q := 63) rfl ?_
  refine am_norm (sh' := am_shT.take 72) (mr' := am_mr11) rfl rfl ?_
  refine wi_putR rfl ⟨rfl, Nat.le_of_ble_eq_true rfl, Nat.le_of_ble_eq_true rfl⟩ rfl ?_
  refine wi_aload_n rfl rfl ?_
  refine wi_iconst (x := 0) rfl rfl ?_
  refine wi_putI rfl rfl ?_
  refine wi_aload_n rfl rfl ?_
  refine wi_bipush (x := 10) rfl rfl ?_
  refine wi_putI rfl rfl ?_
  refine wi_aload_n rfl rfl ?_
  refine wi_bipush (x := 20) rfl rfl ?_
  refine wi_putI rfl rfl ?_
  refine wi_aload_n rfl rfl ?_
  refine wi_sipush (x := 256) rfl rfl ?_
  refine wi_newarray rfl ⟨by decide, by decide, by decide⟩ (t := 102) rfl (n := 256) rfl (q := 72) rfl ?_
  refine wi_putR rfl ⟨rfl, Nat.le_of_ble_eq_true rfl, Nat.le_of_ble_eq_true rfl⟩ rfl ?_
  refine wi_aload_n rfl rfl ?_
  refine wi_sipush (x := 256) rfl rfl ?_
  refine wi_newarray rfl ⟨by decide, by decide, by decide⟩ (t := 103) rfl (n := 256) rfl (q := 73) rfl ?_
  refine wi_putR rfl ⟨rfl, Nat.le_of_ble_eq_true rfl, Nat.le_of_ble_eq_true rfl⟩ rfl ?_
  refine wi_aload_n rfl rfl ?_
  refine wi_sipush (x := 256) rfl rfl ?_
  refine wi_newarray rfl ⟨by decide, by decide, by decide⟩ (t := 103) rfl (n := 256) rfl (q := 74) rfl ?_
  refine wi_putR rfl ⟨rfl, Nat.le_of_ble_eq_true rfl, Nat.le_of_ble_eq_true rfl⟩ rfl ?_
  refine wi_aload_n rfl rfl ?_
  refine wi_ldc2_w (lx := (-1)) rfl rfl ?_
  refine wi_putL rfl rfl ?_
  refine wi_aload_n rfl rfl ?_
  refine wi_iconst (x := (-1)) rfl rfl ?_
  refine wi_putI rfl rfl ?_
  refine wi_iconst (x := 0) rfl rfl ?_
  refine wi_istore_n rfl (Nat.le_of_ble_eq_true rfl) rfl rfl ?_
  refine wi_iload_n rfl rfl ?_
  refine wi_bipush (x := 8) rfl rfl ?_
  refine wi_brF rfl rfl ?_
  refine wi_iconst (x := 0) rfl rfl ?_
  refine wi_istore_n rfl (Nat.le_of_ble_eq_true rfl) rfl rfl ?_
  refine wi_iload_n rfl rfl ?_
  refine wi_bipush (x := 8) rfl rfl ?_
  refine wi_brF rfl rfl ?_
  refine wi_aload_n rfl rfl ?_
  refine wi_getR rfl rfl rfl ?_
  refine wi_iload_n rfl rfl ?_
  refine wi_aaload rfl (Or.inr rfl) rfl (q := 0) rfl rfl ?_
  refine wi_iload_n rfl rfl ?_
  refine wi_bipush (x := 50) rfl rfl ?_
  refine wi_iastore rfl rfl rfl (q := 0) rfl ?_
  refine wi_iinc (z := 1) rfl rfl rfl rfl rfl ?_
  refine wi_goto rfl ?_
  refine wi_iload_n rfl rfl ?_
  refine wi_bipush (x := 8) rfl rfl ?_
  refine wi_brF rfl rfl ?_
  refine wi_aload_n rfl rfl ?_
  refine wi_getR rfl rfl rfl ?_
  refine wi_iload_n rfl rfl ?_
  refine wi_aaload rfl (Or.inr rfl) rfl (q := 0) rfl rfl ?_
  refine wi_iload_n rfl rfl ?_
  refine wi_bipush (x := 50) rfl rfl ?_
  refine wi_iastore rfl rfl rfl (q := 1) rfl ?_
  refine wi_iinc (z := 2) rfl rfl rfl rfl rfl ?_
  refine wi_goto rfl ?_
  refine wi_iload_n rfl rfl ?_
  refine wi_bipush (x := 8) rfl rfl ?_
  refine wi_brF rfl rfl ?_
  refine wi_aload_n rfl rfl ?_
  refine wi_getR rfl rfl rfl ?_
  refine wi_iload_n rfl rfl ?_
  refine wi_aaload rfl (Or.inr rfl) rfl (q := 0) rfl rfl ?_
  refine wi_iload_n rfl rfl ?_
  refine wi_bipush (x := 50) rfl rfl ?_
  refine wi_iastore rfl rfl rfl (q := 2) rfl ?_
  refine wi_iinc (z := 3) rfl rfl rfl rfl rfl ?_
  refine wi_goto rfl ?_
  refine wi_iload_n rfl rfl ?_
  refine wi_bipush (x := 8) rfl rfl ?_
  refine wi_brF rfl rfl ?_
  refine wi_aload_n rfl rfl ?_
  refine wi_getR rfl rfl rfl ?_
  refine wi_iload_n rfl rfl ?_
  refine wi_aaload rfl (Or.inr rfl) rfl (q := 0) rfl rfl ?_
  refine wi_iload_n rfl rfl ?_
  refine wi_bipush (x := 50) rfl rfl ?_
  refine wi_iastore rfl rfl rfl (q := 3) rfl ?_
  refine wi_iinc (z := 4) rfl rfl rfl rfl rfl ?_
  refine wi_goto rfl ?_
  refine wi_iload_n rfl rfl ?_
  refine wi_bipush (x := 8) rfl rfl ?_
  refine wi_brF rfl rfl ?_
  refine wi_aload_n rfl rfl ?_
  refine wi_getR rfl rfl rfl ?_
  refine wi_iload_n rfl rfl ?_
  refine wi_aaload rfl (Or.inr rfl) rfl (q := 0) rfl rfl ?_
  refine wi_iload_n rfl rfl ?_
  refine wi_bipush (x := 50) rfl rfl ?_
  refine wi_iastore rfl rfl rfl (q := 4) rfl ?_
  refine wi_iinc (z := 5) rfl rfl rfl rfl rfl ?_
  refine wi_goto rfl ?_
  refine wi_iload_n rfl rfl ?_
  refine wi_bipush (x := 8) rfl rfl ?_
  refine wi_brF rfl rfl ?_
  refine wi_aload_n rfl rfl ?_
  refine wi_getR rfl rfl rfl ?_
  refine wi_iload_n rfl rfl ?_
  refine wi_aaload rfl (Or.inr rfl) rfl (q := 0) rfl rfl ?_
  refine wi_iload_n rfl rfl ?_
  refine wi_bipush (x := 50) rfl rfl ?_
  refine wi_iastore rfl rfl rfl (q := 5) rfl ?_
  refine wi_iinc (z := 6) rfl rfl rfl rfl rfl ?_
  refine wi_goto rfl ?_
  refine wi_iload_n rfl rfl ?_
  refine wi_bipush (x := 8) rfl rfl ?_
  refine wi_brF rfl rfl ?_
  refine wi_aload_n rfl rfl ?_
  refine wi_getR rfl rfl rfl ?_
  refine wi_iload_n rfl rfl ?_
  refine wi_aaload rfl (Or.inr rfl) rfl (q := 0) rfl rfl ?_
  refine wi_iload_n rfl rfl ?_
  refine wi_bipush (x := 50) rfl rfl ?_
  refine wi_iastore rfl rfl rfl (q := 6) rfl ?_
  refine wi_iinc (z := 7) rfl rfl rfl rfl rfl ?_
  refine wi_goto rfl ?_
  refine wi_iload_n rfl rfl ?_
  refine wi_bipush (x := 8) rfl rfl ?_
  refine wi_brF rfl rfl ?_
  refine wi_aload_n rfl rfl ?_
  refine wi_getR rfl rfl rfl ?_
  refine wi_iload_n rfl rfl ?_
  refine wi_aaload rfl (Or.inr rfl) rfl (q := 0) rfl rfl ?_
  refine wi_iload_n rfl rfl ?_
  refine wi_bipush (x := 50) rfl rfl ?_
  refine wi_iastore rfl rfl rfl (q := 7) rfl ?_
  refine wi_iinc (z := 8) rfl rfl rfl rfl rfl ?_
  refine wi_goto rfl ?_
  refine wi_iload_n rfl rfl ?_
  refine wi_bipush (x := 8) rfl rfl ?_
  refine wi_brT rfl rfl ?_
  refine wi_iinc (z := 1) rfl rfl rfl rfl rfl ?_
  refine wi_goto rfl ?_
  refine wi_iload_n rfl rfl ?_
  refine wi_bipush (x := 8) rfl rfl ?_
  refine wi_brF rfl rfl ?_
  refine wi_iconst (x := 0) rfl rfl ?_
  refine wi_istore_n rfl (Nat.le_of_ble_eq_true rfl) rfl rfl ?_
  refine wi_iload_n rfl rfl ?_
  refine wi_bipush (x := 8) rfl rfl ?_
  refine wi_brF rfl rfl ?_
  refine wi_aload_n rfl rfl ?_
  refine wi_getR rfl rfl rfl ?_
  refine wi_iload_n rfl rfl ?_
  refine wi_aaload rfl (Or.inr rfl) rfl (q := 1) rfl rfl ?_
  refine wi_iload_n rfl rfl ?_
  refine wi_bipush (x := 50) rfl rfl ?_
  refine wi_iastore rfl rfl rfl (q := 0) rfl ?_
  refine wi_iinc (z := 1) rfl rfl rfl rfl rfl ?_
  refine wi_goto rfl ?_
  refine wi_iload_n rfl rfl ?_
  refine wi_bipush (x := 8) rfl rfl ?_
  refine wi_brF rfl rfl ?_
  refine wi_aload_n rfl rfl ?_
  refine wi_getR rfl rfl rfl ?_
  refine wi_iload_n rfl rfl ?_
  refine wi_aaload rfl (Or.inr rfl) rfl (q := 1) rfl rfl ?_
  refine wi_iload_n rfl rfl ?_
  refine wi_bipush (x := 50) rfl rfl ?_
  refine wi_iastore rfl rfl rfl (q := 1) rfl ?_
  refine wi_iinc (z := 2) rfl rfl rfl rfl rfl ?_
  refine wi_goto rfl ?_
  refine wi_iload_n rfl rfl ?_
  refine wi_bipush (x := 8) rfl rfl ?_
  refine wi_brF rfl rfl ?_
  refine wi_aload_n rfl rfl ?_
  refine wi_getR rfl rfl rfl ?_
  refine wi_iload_n rfl rfl ?_
  refine wi_aaload rfl (Or.inr rfl) rfl (q := 1) rfl rfl ?_
  refine wi_iload_n rfl rfl ?_
  refine wi_bipush (x := 50) rfl rfl ?_
  refine wi_iastore rfl rfl rfl (q := 2) rfl ?_
  refine wi_iinc (z := 3) rfl rfl rfl rfl rfl ?_
  refine wi_goto rfl ?_
  refine wi_iload_n rfl rfl ?_
  refine wi_bipush (x := 8) rfl rfl ?_
  refine wi_brF rfl rfl ?_
  refine wi_aload_n rfl rfl ?_
  refine wi_getR rfl rfl rfl ?_
  refine wi_iload_n rfl rfl ?_
  refine wi_aaload rfl (Or.inr rfl) rfl (q := 1) rfl rfl ?_
  refine wi_iload_n rfl rfl ?_
  refine wi_bipush (x := 50) rfl rfl ?_
  refine wi_iastore rfl rfl rfl (q := 3) rfl ?_
  refine wi_iinc (z := 4) rfl rfl rfl rfl rfl ?_
  refine wi_goto rfl ?_
  refine wi_iload_n rfl rfl ?_
  refine wi_bipush (x := 8) rfl rfl ?_
  refine wi_brF rfl rfl ?_
  refine wi_aload_n rfl rfl ?_
  refine wi_getR rfl rfl rfl ?_
  refine wi_iload_n rfl rfl ?_
  refine wi_aaload rfl (Or.inr rfl) rfl (q := 1) rfl rfl ?_
  refine wi_iload_n rfl rfl ?_
  refine wi_bipush (x := 50) rfl rfl ?_
  refine wi_iastore rfl rfl rfl (q := 4) rfl ?_
  refine wi_iinc (z := 5) rfl rfl rfl rfl rfl ?_
  refine wi_goto rfl ?_
  refine wi_iload_n rfl rfl ?_
  refine wi_bipush (x := 8) rfl rfl ?_
  refine wi_brF rfl rfl ?_
  refine wi_aload_n rfl rfl ?_
  refine wi_getR rfl rfl rfl ?_
  refine wi_iload_n rfl rfl ?_
  refine wi_aaload rfl (Or.inr rfl) rfl (q := 1) rfl rfl ?_
  refine wi_iload_n rfl rfl ?_
  refine wi_bipush (x := 50) rfl rfl ?_
  refine wi_iastore rfl rfl rfl (q := 5) rfl ?_
  refine wi_iinc (z := 6) rfl rfl rfl rfl rfl ?_
  refine wi_goto rfl ?_
  refine wi_iload_n rfl rfl ?_
  refine wi_bipush (x := 8) rfl rfl ?_
  refine wi_brF rfl rfl ?_
  refine wi_aload_n rfl rfl ?_
  refine wi_getR rfl rfl rfl ?_
  refine wi_iload_n rfl rfl ?_
  refine wi_aaload rfl (Or.inr rfl) rfl (q := 1) rfl rfl ?_
  refine wi_iload_n rfl rfl ?_
  refine wi_bipush (x := 50) rfl rfl ?_
  refine wi_iastore rfl rfl rfl (q := 6) rfl ?_
  refine wi_iinc (z := 7) rfl rfl rfl rfl rfl ?_
  refine wi_goto rfl ?_
  refine wi_iload_n rfl rfl ?_
  refine wi_bipush (x := 8) rfl rfl ?_
  refine wi_brF rfl rfl ?_
  refine wi_aload_n rfl rfl ?_
  refine wi_getR rfl rfl rfl ?_
  refine wi_iload_n rfl rfl ?_
  refine wi_aaload rfl (Or.inr rfl) rfl (q := 1) rfl rfl ?_
  refine wi_iload_n rfl rfl ?_
  refine wi_bipush (x := 50) rfl rfl ?_
  refine wi_iastore rfl rfl rfl (q := 7) rfl ?_
  refine wi_iinc (z := 8) rfl rfl rfl rfl rfl ?_
  refine wi_goto rfl ?_
  refine wi_iload_n rfl rfl ?_
  refine wi_bipush (x := 8) rfl rfl ?_
  refine wi_brT rfl rfl ?_
  refine wi_iinc (z := 2) rfl rfl rfl rfl rfl ?_
  refine wi_goto rfl ?_
  refine wi_iload_n rfl rfl ?_
  refine wi_bipush (x := 8) rfl rfl ?_
  refine wi_brF rfl rfl ?_
  refine wi_iconst (x := 0) rfl rfl ?_
  refine wi_istore_n rfl (Nat.le_of_ble_eq_true rfl) rfl rfl ?_
  refine wi_iload_n rfl rfl ?_
  refine wi_bipush (x := 8) rfl rfl ?_
  refine wi_brF rfl rfl ?_
  refine wi_aload_n rfl rfl ?_
  refine wi_getR rfl rfl rfl ?_
  refine wi_iload_n rfl rfl ?_
  refine wi_aaload rfl (Or.inr rfl) rfl (q := 2) rfl rfl ?_
  refine wi_iload_n rfl rfl ?_
  refine wi_bipush (x := 50) rfl rfl ?_
  refine wi_iastore rfl rfl rfl (q := 0) rfl ?_
  refine wi_iinc (z := 1) rfl rfl rfl rfl rfl ?_
  refine wi_goto rfl ?_
  refine wi_iload_n rfl rfl ?_
  refine wi_bipush (x := 8) rfl rfl ?_
  refine wi_brF rfl rfl ?_
  refine wi_aload_n rfl rfl ?_
  refine wi_getR rfl rfl rfl ?_
  refine wi_iload_n rfl rfl ?_
  refine wi_aaload rfl (Or.inr rfl) rfl (q := 2) rfl rfl ?_
  refine wi_iload_n rfl rfl ?_
  refine wi_bipush (x := 50) rfl rfl ?_
  refine wi_iastore rfl rfl rfl (q := 1) rfl ?_
  refine wi_iinc (z := 2) rfl rfl rfl rfl rfl ?_
  refine wi_goto rfl ?_
  refine wi_iload_n rfl rfl ?_
  refine wi_bipush (x := 8) rfl rfl ?_
  refine wi_brF rfl rfl ?_
  refine wi_aload_n rfl rfl ?_
  refine wi_getR rfl rfl rfl ?_
  refine wi_iload_n rfl rfl ?_
  refine wi_aaload rfl (Or.inr rfl) rfl (q := 2) rfl rfl ?_
  refine wi_iload_n rfl rfl ?_
  refine wi_bipush (x := 50) rfl rfl ?_
  refine wi_iastore rfl rfl rfl (q := 2) rfl ?_
  refine wi_iinc (z := 3) rfl rfl rfl rfl rfl ?_
  refine wi_goto rfl ?_
  refine wi_iload_n rfl rfl ?_
  refine wi_bipush (x := 8) rfl rfl ?_
  refine wi_brF rfl rfl ?_
  refine wi_aload_n rfl rfl ?_
  refine wi_getR rfl rfl rfl ?_
  refine wi_iload_n rfl rfl ?_
  refine wi_aaload rfl (Or.inr rfl) rfl (q := 2) rfl rfl ?_
  refine wi_iload_n rfl rfl ?_
  refine wi_bipush (x := 50) rfl rfl ?_
  refine wi_iastore rfl rfl rfl (q := 3) rfl ?_
  refine wi_iinc (z := 4) rfl rfl rfl rfl rfl ?_
  refine wi_goto rfl ?_
  refine wi_iload_n rfl rfl ?_
  refine wi_bipush (x := 8) rfl rfl ?_
  refine wi_brF rfl rfl ?_
  refine wi_aload_n rfl rfl ?_
  refine wi_getR rfl rfl rfl ?_
  refine wi_iload_n rfl rfl ?_
  refine wi_aaload rfl (Or.inr rfl) rfl (q := 2) rfl rfl ?_
  refine wi_iload_n rfl rfl ?_
  refine wi_bipush (x := 50) rfl rfl ?_
  refine wi_iastore rfl rfl rfl (q := 4) rfl ?_
  refine wi_iinc (z := 5) rfl rfl rfl rfl rfl ?_
  refine wi_goto rfl ?_
  refine wi_iload_n rfl rfl ?_
  refine wi_bipush (x := 8) rfl rfl ?_
  refine wi_brF rfl rfl ?_
  refine wi_aload_n rfl rfl ?_
  refine wi_getR rfl rfl rfl ?_
  refine wi_iload_n rfl rfl ?_
  refine wi_aaload rfl (Or.inr rfl) rfl (q := 2) rfl rfl ?_
  refine wi_iload_n rfl rfl ?_
  refine wi_bipush (x := 50) rfl rfl ?_
  refine wi_iastore rfl rfl rfl (q := 5) rfl ?_
  refine wi_iinc (z := 6) rfl rfl rfl rfl rfl ?_
  refine wi_goto rfl ?_
  refine wi_iload_n rfl rfl ?_
  refine wi_bipush (x := 8) rfl rfl ?_
  refine wi_brF rfl rfl ?_
  refine wi_aload_n rfl rfl ?_
  refine wi_getR rfl rfl rfl ?_
  refine wi_iload_n rfl rfl ?_
  refine wi_aaload rfl (Or.inr rfl) rfl (q := 2) rfl rfl ?_
  refine wi_iload_n rfl rfl ?_
  refine wi_bipush (x := 50) rfl rfl ?_
  refine wi_iastore rfl rfl rfl (q := 6) rfl ?_
  refine wi_iinc (z := 7) rfl rfl rfl rfl rfl ?_
  refine wi_goto rfl ?_
  refine wi_iload_n rfl rfl ?_
  refine wi_bipush (x := 8) rfl rfl ?_
  refine wi_brF rfl rfl ?_
  refine wi_aload_n rfl rfl ?_
  refine wi_getR rfl rfl rfl ?_
  refine wi_iload_n rfl rfl ?_
  refine wi_aaload rfl (Or.inr rfl) rfl (q := 2) rfl rfl ?_
  refine wi_iload_n rfl rfl ?_
  refine wi_bipush (x := 50) rfl rfl ?_
  refine wi_iastore rfl rfl rfl (q := 7) rfl ?_
  refine wi_iinc (z := 8) rfl rfl rfl rfl rfl ?_
  refine wi_goto rfl ?_
  refine wi_iload_n rfl rfl ?_
  refine wi_bipush (x := 8) rfl rfl ?_
  refine wi_brT rfl rfl ?_
  refine wi_iinc (z := 3) rfl rfl rfl rfl rfl ?_
  refine wi_goto rfl ?_
  refine wi_iload_n rfl rfl ?_
  refine wi_bipush (x := 8) rfl rfl ?_
  refine wi_brF rfl rfl ?_
  refine wi_iconst (x := 0) rfl rfl ?_
  refine wi_istore_n rfl (Nat.le_of_ble_eq_true rfl) rfl rfl ?_
  refine wi_iload_n rfl rfl ?_
  refine wi_bipush (x := 8) rfl rfl ?_
  refine wi_brF rfl rfl ?_
  refine wi_aload_n rfl rfl ?_
  refine wi_getR rfl rfl rfl ?_
  refine wi_iload_n rfl rfl ?_
  refine wi_aaload rfl (Or.inr rfl) rfl (q := 3) rfl rfl ?_
  refine wi_iload_n rfl rfl ?_
  refine wi_bipush (x := 50) rfl rfl ?_
  refine wi_iastore rfl rfl rfl (q := 0) rfl ?_
  refine wi_iinc (z := 1) rfl rfl rfl rfl rfl ?_
  refine wi_goto rfl ?_
  refine wi_iload_n rfl rfl ?_
  refine wi_bipush (x := 8) rfl rfl ?_
  refine wi_brF rfl rfl ?_
  refine wi_aload_n rfl rfl ?_
  refine wi_getR rfl rfl rfl ?_
  refine wi_iload_n rfl rfl ?_
  refine wi_aaload rfl (Or.inr rfl) rfl (q := 3) rfl rfl ?_
  refine wi_iload_n rfl rfl ?_
  refine wi_bipush (x := 50) rfl rfl ?_
  refine wi_iastore rfl rfl rfl (q := 1) rfl ?_
  refine wi_iinc (z := 2) rfl rfl rfl rfl rfl ?_
  refine wi_goto rfl ?_
  refine wi_iload_n rfl rfl ?_
  refine wi_bipush (x := 8) rfl rfl ?_
  refine wi_brF rfl rfl ?_
  refine wi_aload_n rfl rfl ?_
  refine wi_getR rfl rfl rfl ?_
  refine wi_iload_n rfl rfl ?_
  refine wi_aaload rfl (Or.inr rfl) rfl (q := 3) rfl rfl ?_
  refine wi_iload_n rfl rfl ?_
  refine wi_bipush (x := 50) rfl rfl ?_
  refine wi_iastore rfl rfl rfl (q := 2) rfl ?_
  refine wi_iinc (z := 3) rfl rfl rfl rfl rfl ?_
  refine wi_goto rfl ?_
  refine wi_iload_n rfl rfl ?_
  refine wi_bipush (x := 8) rfl rfl ?_
  refine wi_brF rfl rfl ?_
  refine wi_aload_n rfl rfl ?_
  refine wi_getR rfl rfl rfl ?_
  refine wi_iload_n rfl rfl ?_
  refine wi_aaload rfl (Or.inr rfl) rfl (q := 3) rfl rfl ?_
  refine wi_iload_n rfl rfl ?_
  refine wi_bipush (x := 50) rfl rfl ?_
  refine wi_iastore rfl rfl rfl (q := 3) rfl ?_
  refine wi_iinc (z := 4) rfl rfl rfl rfl rfl ?_
  refine wi_goto rfl ?_
  refine wi_iload_n rfl rfl ?_
  refine wi_bipush (x := 8) rfl rfl ?_
  refine wi_brF rfl rfl ?_
  refine wi_aload_n rfl rfl ?_
  refine wi_getR rfl rfl rfl ?_
  refine wi_iload_n rfl rfl ?_
  refine wi_aaload rfl (Or.inr rfl) rfl (q := 3) rfl rfl ?_
  refine wi_iload_n rfl rfl ?_
  refine wi_bipush (x := 50) rfl rfl ?_
  refine wi_iastore rfl rfl rfl (q := 4) rfl ?_
  refine wi_iinc (z := 5) rfl rfl rfl rfl rfl ?_
  refine wi_goto rfl ?_
  refine wi_iload_n rfl rfl ?_
  refine wi_bipush (x := 8) rfl rfl ?_
  refine wi_brF rfl rfl ?_
  refine wi_aload_n rfl rfl ?_
  refine wi_getR rfl rfl rfl ?_
  refine wi_iload_n rfl rfl ?_
  refine wi_aaload rfl (Or.inr rfl) rfl (q := 3) rfl rfl ?_
  refine wi_iload_n rfl rfl ?_
  refine wi_bipush (x := 50) rfl rfl ?_
  refine wi_iastore rfl rfl rfl (q := 5) rfl ?_
  refine wi_iinc (z := 6) rfl rfl rfl rfl rfl ?_
  refine wi_goto rfl ?_
  refine wi_iload_n rfl rfl ?_
  refine wi_bipush (x := 8) rfl rfl ?_
  refine wi_brF rfl rfl ?_
  refine wi_aload_n rfl rfl ?_
  refine wi_getR rfl rfl rfl ?_
  refine wi_iload_n rfl rfl ?_
  refine wi_aaload rfl (Or.inr rfl) rfl (q := 3) rfl rfl ?_
  refine wi_iload_n rfl rfl ?_
  refine wi_bipush (x := 50) rfl rfl ?_
  refine wi_iastore rfl rfl rfl (q := 6) rfl ?_
  refine wi_iinc (z := 7) rfl rfl rfl rfl rfl ?_
  refine wi_goto rfl ?_
  refine wi_iload_n rfl rfl ?_
  refine wi_bipush (x := 8) rfl rfl ?_
  refine wi_brF rfl rfl ?_
  refine wi_aload_n rfl rfl ?_
  refine wi_getR rfl rfl rfl ?_
  refine wi_iload_n rfl rfl ?_
  refine wi_aaload rfl (Or.inr rfl) rfl (q := 3) rfl rfl ?_
  refine wi_iload_n rfl rfl ?_
  refine wi_bipush (x := 50) rfl rfl ?_
  refine wi_iastore rfl rfl rfl (q := 7) rfl ?_
  refine wi_iinc (z := 8) rfl rfl rfl rfl rfl ?_
  refine wi_goto rfl ?_
  refine wi_iload_n rfl rfl ?_
  refine wi_bipush (x := 8) rfl rfl ?_
  refine wi_brT rfl rfl ?_
  refine wi_iinc (z := 4) rfl rfl rfl rfl rfl ?_
  refine wi_goto rfl ?_
  refine wi_iload_n rfl rfl ?_
  refine wi_bipush (x := 8) rfl rfl ?_
  refine wi_brF rfl rfl ?_
  refine wi_iconst (x := 0) rfl rfl ?_
  refine wi_istore_n rfl (Nat.le_of_ble_eq_true rfl) rfl rfl ?_
  refine wi_iload_n rfl rfl ?_
  refine wi_bipush (x := 8) rfl rfl ?_
  refine wi_brF rfl rfl ?_
  refine wi_aload_n rfl rfl ?_
  refine wi_getR rfl rfl rfl ?_
  refine wi_iload_n rfl rfl ?_
  refine wi_aaload rfl (Or.inr rfl) rfl (q := 4) rfl rfl ?_
  refine wi_iload_n rfl rfl ?_
  refine wi_bipush (x := 50) rfl rfl ?_
  refine wi_iastore rfl rfl rfl (q := 0) rfl ?_
  refine wi_iinc (z := 1) rfl rfl rfl rfl rfl ?_
  refine wi_goto rfl ?_
  refine wi_iload_n rfl rfl ?_
  refine wi_bipush (x := 8) rfl rfl ?_
  refine wi_brF rfl rfl ?_
  refine wi_aload_n rfl rfl ?_
  refine wi_getR rfl rfl rfl ?_
  refine wi_iload_n rfl rfl ?_
  refine wi_aaload rfl (Or.inr rfl) rfl (q := 4) rfl rfl ?_
  refine wi_iload_n rfl rfl ?_
  refine wi_bipush (x := 50) rfl rfl ?_
  refine wi_iastore rfl rfl rfl (q := 1) rfl ?_
  refine wi_iinc (z := 2) rfl rfl rfl rfl rfl ?_
  refine wi_goto rfl ?_
  refine wi_iload_n rfl rfl ?_
  refine wi_bipush (x := 8) rfl rfl ?_
  refine wi_brF rfl rfl ?_
  refine wi_aload_n rfl rfl ?_
  refine wi_getR rfl rfl rfl ?_
  refine wi_iload_n rfl rfl ?_
  refine wi_aaload rfl (Or.inr rfl) rfl (q := 4) rfl rfl ?_
  refine wi_iload_n rfl rfl ?_
  refine wi_bipush (x := 50) rfl rfl ?_
  refine wi_iastore rfl rfl rfl (q := 2) rfl ?_
  refine wi_iinc (z := 3) rfl rfl rfl rfl rfl ?_
  refine wi_goto rfl ?_
  refine wi_iload_n rfl rfl ?_
  refine wi_bipush (x := 8) rfl rfl ?_
  refine wi_brF rfl rfl ?_
  refine wi_aload_n rfl rfl ?_
  refine wi_getR rfl rfl rfl ?_
  refine wi_iload_n rfl rfl ?_
  refine wi_aaload rfl (Or.inr rfl) rfl (q := 4) rfl rfl ?_
  refine wi_iload_n rfl rfl ?_
  refine wi_bipush (x := 50) rfl rfl ?_
  refine wi_iastore rfl rfl rfl (q := 3) rfl ?_
  refine wi_iinc (z := 4) rfl rfl rfl rfl rfl ?_
  refine wi_goto rfl ?_
  refine wi_iload_n rfl rfl ?_
  refine wi_bipush (x := 8) rfl rfl ?_
  refine wi_brF rfl rfl ?_
  refine wi_aload_n rfl rfl ?_
  refine wi_getR rfl rfl rfl ?_
  refine wi_iload_n rfl rfl ?_
  refine wi_aaload rfl (Or.inr rfl) rfl (q := 4) rfl rfl ?_
  refine wi_iload_n rfl rfl ?_
  refine wi_bipush (x := 50) rfl rfl ?_
  refine wi_iastore rfl rfl rfl (q := 4) rfl ?_
  refine wi_iinc (z := 5) rfl rfl rfl rfl rfl ?_
  refine wi_goto rfl ?_
  refine wi_iload_n rfl rfl ?_
  refine wi_bipush (x := 8) rfl rfl ?_
  refine wi_brF rfl rfl ?_
  refine wi_aload_n rfl rfl ?_
  refine wi_getR rfl rfl rfl ?_
  refine wi_iload_n rfl rfl ?_
  refine wi_aaload rfl (Or.inr rfl) rfl (q := 4) rfl rfl ?_
  refine wi_iload_n rfl rfl ?_
  refine wi_bipush (x := 50) rfl rfl ?_
  refine wi_iastore rfl rfl rfl (q := 5) rfl ?_
  refine wi_iinc (z := 6) rfl rfl rfl rfl rfl ?_
  refine wi_goto rfl ?_
  refine wi_iload_n rfl rfl ?_
  refine wi_bipush (x := 8) rfl rfl ?_
  refine wi_brF rfl rfl ?_
  refine wi_aload_n rfl rfl ?_
  refine wi_getR rfl rfl rfl ?_
  refine wi_iload_n rfl rfl ?_
  refine wi_aaload rfl (Or.inr rfl) rfl (q := 4) rfl rfl ?_
  refine wi_iload_n rfl rfl ?_
  refine wi_bipush (x := 50) rfl rfl ?_
  refine wi_iastore rfl rfl rfl (q := 6) rfl ?_
  refine wi_iinc (z := 7) rfl rfl rfl rfl rfl ?_
  refine wi_goto rfl ?_
  refine wi_iload_n rfl rfl ?_
  refine wi_bipush (x := 8) rfl rfl ?_
  refine wi_brF rfl rfl ?_
  refine wi_aload_n rfl rfl ?_
  refine wi_getR rfl rfl rfl ?_
  refine wi_iload_n rfl rfl ?_
  refine wi_aaload rfl (Or.inr rfl) rfl (q := 4) rfl rfl ?_
  refine wi_iload_n rfl rfl ?_
  refine wi_bipush (x := 50) rfl rfl ?_
  refine wi_iastore rfl rfl rfl (q := 7) rfl ?_
  refine wi_iinc (z := 8) rfl rfl rfl rfl rfl ?_
  refine wi_goto rfl ?_
  refine wi_iload_n rfl rfl ?_
  refine wi_bipush (x := 8) rfl rfl ?_
  refine wi_brT rfl rfl ?_
  refine wi_iinc (z := 5) rfl rfl rfl rfl rfl ?_
  refine wi_goto rfl ?_
  refine wi_iload_n rfl rfl ?_
  refine wi_bipush (x := 8) rfl rfl ?_
  refine wi_brF rfl rfl ?_
  refine wi_iconst (x := 0) rfl rfl ?_
  refine wi_istore_n rfl (Nat.le_of_ble_eq_true rfl) rfl rfl ?_
  refine wi_iload_n rfl rfl ?_
  refine wi_bipush (x := 8) rfl rfl ?_
  refine wi_brF rfl rfl ?_
  refine wi_aload_n rfl rfl ?_
  refine wi_getR rfl rfl rfl ?_
  refine wi_iload_n rfl rfl ?_
  refine wi_aaload rfl (Or.inr rfl) rfl (q := 5) rfl rfl ?_
  refine wi_iload_n rfl rfl ?_
  refine wi_bipush (x := 50) rfl rfl ?_
  refine wi_iastore rfl rfl rfl (q := 0) rfl ?_
  refine wi_iinc (z := 1) rfl rfl rfl rfl rfl ?_
  refine wi_goto rfl ?_
  refine wi_iload_n rfl rfl ?_
  refine wi_bipush (x := 8) rfl rfl ?_
  refine wi_brF rfl rfl ?_
  refine wi_aload_n rfl rfl ?_
  refine wi_getR rfl rfl rfl ?_
  refine wi_iload_n rfl rfl ?_
  refine wi_aaload rfl (Or.inr rfl) rfl (q := 5) rfl rfl ?_
  refine wi_iload_n rfl rfl ?_
  refine wi_bipush (x := 50) rfl rfl ?_
  refine wi_iastore rfl rfl rfl (q := 1) rfl ?_
  refine wi_iinc (z := 2) rfl rfl rfl rfl rfl ?_
  refine wi_goto rfl ?_
  refine wi_iload_n rfl rfl ?_
  refine wi_bipush (x := 8) rfl rfl ?_
  refine wi_brF rfl rfl ?_
  refine wi_aload_n rfl rfl ?_
  refine wi_getR rfl rfl rfl ?_
  refine wi_iload_n rfl rfl ?_
  refine wi_aaload rfl (Or.inr rfl) rfl (q := 5) rfl rfl ?_
  refine wi_iload_n rfl rfl ?_
  refine wi_bipush (x := 50) rfl rfl ?_
  refine wi_iastore rfl rfl rfl (q := 2) rfl ?_
  refine wi_iinc (z := 3) rfl rfl rfl rfl rfl ?_
  refine wi_goto rfl ?_
  refine wi_iload_n rfl rfl ?_
  refine wi_bipush (x := 8) rfl rfl ?_
  refine wi_brF rfl rfl ?_
  refine wi_aload_n rfl rfl ?_
  refine wi_getR rfl rfl rfl ?_
  refine wi_iload_n rfl rfl ?_
  refine wi_aaload rfl (Or.inr rfl) rfl (q := 5) rfl rfl ?_
  refine wi_iload_n rfl rfl ?_
  refine wi_bipush (x := 50) rfl rfl ?_
  refine wi_iastore rfl rfl rfl (q := 3) rfl ?_
  refine wi_iinc (z := 4) rfl rfl rfl rfl rfl ?_
  refine wi_goto rfl ?_
  refine wi_iload_n rfl rfl ?_
  refine wi_bipush (x := 8) rfl rfl ?_
  refine wi_brF rfl rfl ?_
  refine wi_aload_n rfl rfl ?_
  refine wi_getR rfl rfl rfl ?_
  refine wi_iload_n rfl rfl ?_
  refine wi_aaload rfl (Or.inr rfl) rfl (q := 5) rfl rfl ?_
  refine wi_iload_n rfl rfl ?_
  refine wi_bipush (x := 50) rfl rfl ?_
  refine wi_iastore rfl rfl rfl (q := 4) rfl ?_
  refine wi_iinc (z := 5) rfl rfl rfl rfl rfl ?_
  refine wi_goto rfl ?_
  refine wi_iload_n rfl rfl ?_
  refine wi_bipush (x := 8) rfl rfl ?_
  refine wi_brF rfl rfl ?_
  refine wi_aload_n rfl rfl ?_
  refine wi_getR rfl rfl rfl ?_
  refine wi_iload_n rfl rfl ?_
  refine wi_aaload rfl (Or.inr rfl) rfl (q := 5) rfl rfl ?_
  refine wi_iload_n rfl rfl ?_
  refine wi_bipush (x := 50) rfl rfl ?_
  refine wi_iastore rfl rfl rfl (q := 5) rfl ?_
  refine wi_iinc (z := 6) rfl rfl rfl rfl rfl ?_
  refine wi_goto rfl ?_
  refine wi_iload_n rfl rfl ?_
  refine wi_bipush (x := 8) rfl rfl ?_
  refine wi_brF rfl rfl ?_
  refine wi_aload_n rfl rfl ?_
  refine wi_getR rfl rfl rfl ?_
  refine wi_iload_n rfl rfl ?_
  refine wi_aaload rfl (Or.inr rfl) rfl (q := 5) rfl rfl ?_
  refine wi_iload_n rfl rfl ?_
  refine wi_bipush (x := 50) rfl rfl ?_
  refine wi_iastore rfl rfl rfl (q := 6) rfl ?_
  refine wi_iinc (z := 7) rfl rfl rfl rfl rfl ?_
  refine wi_goto rfl ?_
  refine wi_iload_n rfl rfl ?_
  refine wi_bipush (x := 8) rfl rfl ?_
  refine wi_brF rfl rfl ?_
  refine wi_aload_n rfl rfl ?_
  refine wi_getR rfl rfl rfl ?_
  refine wi_iload_n rfl rfl ?_
  refine wi_aaload rfl (Or.inr rfl) rfl (q := 5) rfl rfl ?_
  refine wi_iload_n rfl rfl ?_
  refine wi_bipush (x := 50) rfl rfl ?_
  refine wi_iastore rfl rfl rfl (q := 7) rfl ?_
  refine wi_iinc (z := 8) rfl rfl rfl rfl rfl ?_
  refine wi_goto rfl ?_
  refine wi_iload_n rfl rfl ?_
  refine wi_bipush (x := 8) rfl rfl ?_
  refine wi_brT rfl rfl ?_
  refine wi_iinc (z := 6) rfl rfl rfl rfl rfl ?_
  refine wi_goto rfl ?_
  refine wi_iload_n rfl rfl ?_
  refine wi_bipush (x := 8) rfl rfl ?_
  refine wi_brF rfl rfl ?_
  refine wi_iconst (x := 0) rfl rfl ?_
  refine wi_istore_n rfl (Nat.le_of_ble_eq_true rfl) rfl rfl ?_
  refine wi_iload_n rfl rfl ?_
  refine wi_bipush (x := 8) rfl rfl ?_
  refine wi_brF rfl rfl ?_
  refine wi_aload_n rfl rfl ?_
  refine wi_getR rfl rfl rfl ?_
  refine wi_iload_n rfl rfl ?_
  refine wi_aaload rfl (Or.inr rfl) rfl (q := 6) rfl rfl ?_
  refine wi_iload_n rfl rfl ?_
  refine wi_bipush (x := 50) rfl rfl ?_
  refine wi_iastore rfl rfl rfl (q := 0) rfl ?_
  refine wi_iinc (z := 1) rfl rfl rfl rfl rfl ?_
  refine wi_goto rfl ?_
  refine wi_iload_n rfl rfl ?_
  refine wi_bipush (x := 8) rfl rfl ?_
  refine wi_brF rfl rfl ?_
  refine wi_aload_n rfl rfl ?_
  refine wi_getR rfl rfl rfl ?_
  refine wi_iload_n rfl rfl ?_
  refine wi_aaload rfl (Or.inr rfl) rfl (q := 6) rfl rfl ?_
  refine wi_iload_n rfl rfl ?_
  refine wi_bipush (x := 50) rfl rfl ?_
  refine wi_iastore rfl rfl rfl (q := 1) rfl ?_
  refine wi_iinc (z := 2) rfl rfl rfl rfl rfl ?_
  refine wi_goto rfl ?_
  refine wi_iload_n rfl rfl ?_
  refine wi_bipush (x := 8) rfl rfl ?_
  refine wi_brF rfl rfl ?_
  refine wi_aload_n rfl rfl ?_
  refine wi_getR rfl rfl rfl ?_
  refine wi_iload_n rfl rfl ?_
  refine wi_aaload rfl (Or.inr rfl) rfl (q := 6) rfl rfl ?_
  refine wi_iload_n rfl rfl ?_
  refine wi_bipush (x := 50) rfl rfl ?_
  refine wi_iastore rfl rfl rfl (q := 2) rfl ?_
  refine wi_iinc (z := 3) rfl rfl rfl rfl rfl ?_
  refine wi_goto rfl ?_
  refine wi_iload_n rfl rfl ?_
  refine wi_bipush (x := 8) rfl rfl ?_
  refine wi_brF rfl rfl ?_
  refine wi_aload_n rfl rfl ?_
  refine wi_getR rfl rfl rfl ?_
  refine wi_iload_n rfl rfl ?_
  refine wi_aaload rfl (Or.inr rfl) rfl (q := 6) rfl rfl ?_
  refine wi_iload_n rfl rfl ?_
  refine wi_bipush (x := 50) rfl rfl ?_
  refine wi_iastore rfl rfl rfl (q := 3) rfl ?_
  refine wi_iinc (z := 4) rfl rfl rfl rfl rfl ?_
  refine wi_goto rfl ?_
  refine wi_iload_n rfl rfl ?_
  refine wi_bipush (x := 8) rfl rfl ?_
  refine wi_brF rfl rfl ?_
  refine wi_aload_n rfl rfl ?_
  refine wi_getR rfl rfl rfl ?_
  refine wi_iload_n rfl rfl ?_
  refine wi_aaload rfl (Or.inr rfl) rfl (q := 6) rfl rfl ?_
  refine wi_iload_n rfl rfl ?_
  refine wi_bipush (x := 50) rfl rfl ?_
  refine wi_iastore rfl rfl rfl (q := 4) rfl ?_
  refine wi_iinc (z := 5) rfl rfl rfl rfl rfl ?_
  refine wi_goto rfl ?_
  refine wi_iload_n rfl rfl ?_
  refine wi_bipush (x := 8) rfl rfl ?_
  refine wi_brF rfl rfl ?_
  refine wi_aload_n rfl rfl ?_
  refine wi_getR rfl rfl rfl ?_
  refine wi_iload_n rfl rfl ?_
  refine wi_aaload rfl (Or.inr rfl) rfl (q := 6) rfl rfl ?_
  refine wi_iload_n rfl rfl ?_
  refine wi_bipush (x := 50) rfl rfl ?_
  refine wi_iastore rfl rfl rfl (q := 5) rfl ?_
  refine wi_iinc (z := 6) rfl rfl rfl rfl rfl ?_
  refine wi_goto rfl ?_
  refine wi_iload_n rfl rfl ?_
  refine wi_bipush (x := 8) rfl rfl ?_
  refine wi_brF rfl rfl ?_
  refine wi_aload_n rfl rfl ?_
  refine wi_getR rfl rfl rfl ?_
  refine wi_iload_n rfl rfl ?_
  refine wi_aaload rfl (Or.inr rfl) rfl (q := 6) rfl rfl ?_
  refine wi_iload_n rfl rfl ?_
  refine wi_bipush (x := 50) rfl rfl ?_
  refine wi_iastore rfl rfl rfl (q := 6) rfl ?_
  refine wi_iinc (z := 7) rfl rfl rfl rfl rfl ?_
  refine wi_goto rfl ?_
  refine wi_iload_n rfl rfl ?_
  refine wi_bipush (x := 8) rfl rfl ?_
  refine wi_brF rfl rfl ?_
  refine wi_aload_n rfl rfl ?_
  refine wi_getR rfl rfl rfl ?_
  refine wi_iload_n rfl rfl ?_
  refine wi_aaload rfl (Or.inr rfl) rfl (q := 6) rfl rfl ?_
  refine wi_iload_n rfl rfl ?_
  refine wi_bipush (x := 50) rfl rfl ?_
  refine wi_iastore rfl rfl rfl (q := 7) rfl ?_
  refine wi_iinc (z := 8) rfl rfl rfl rfl rfl ?_
  refine wi_goto rfl ?_
  refine wi_iload_n rfl rfl ?_
  refine wi_bipush (x := 8) rfl rfl ?_
  refine wi_brT rfl rfl ?_
  refine wi_iinc (z := 7) rfl rfl rfl rfl rfl ?_
  refine wi_goto rfl ?_
  refine wi_iload_n rfl rfl ?_
  refine wi_bipush (x := 8) rfl rfl ?_
  refine wi_brF rfl rfl ?_
  refine wi_iconst (x := 0) rfl rfl ?_
  refine wi_istore_n rfl (Nat.le_of_ble_eq_true rfl) rfl rfl ?_
  refine wi_iload_n rfl rfl ?_
  refine wi_bipush (x := 8) rfl rfl ?_
  refine wi_brF rfl rfl ?_
  refine wi_aload_n rfl rfl ?_
  refine wi_getR rfl rfl rfl ?_
  refine wi_iload_n rfl rfl ?_
  refine wi_aaload rfl (Or.inr rfl) rfl (q := 7) rfl rfl ?_
  refine wi_iload_n rfl rfl ?_
  refine wi_bipush (x := 50) rfl rfl ?_
  refine wi_iastore rfl rfl rfl (q := 0) rfl ?_
  refine wi_iinc (z := 1) rfl rfl rfl rfl rfl ?_
  refine wi_goto rfl ?_
  refine wi_iload_n rfl rfl ?_
  refine wi_bipush (x := 8) rfl rfl ?_
  refine wi_brF rfl rfl ?_
  refine wi_aload_n rfl rfl ?_
  refine wi_getR rfl rfl rfl ?_
  refine wi_iload_n rfl rfl ?_
  refine wi_aaload rfl (Or.inr rfl) rfl (q := 7) rfl rfl ?_
  refine wi_iload_n rfl rfl ?_
  refine wi_bipush (x := 50) rfl rfl ?_
  refine wi_iastore rfl rfl rfl (q := 1) rfl ?_
  refine wi_iinc (z := 2) rfl rfl rfl rfl rfl ?_
  refine wi_goto rfl ?_
  refine wi_iload_n rfl rfl ?_
  refine wi_bipush (x := 8) rfl rfl ?_
  refine wi_brF rfl rfl ?_
  refine wi_aload_n rfl rfl ?_
  refine wi_getR rfl rfl rfl ?_
  refine wi_iload_n rfl rfl ?_
  refine wi_aaload rfl (Or.inr rfl) rfl (q := 7) rfl rfl ?_
  refine wi_iload_n rfl rfl ?_
  refine wi_bipush (x := 50) rfl rfl ?_
  refine wi_iastore rfl rfl rfl (q := 2) rfl ?_
  refine wi_iinc (z := 3) rfl rfl rfl rfl rfl ?_
  refine wi_goto rfl ?_
  refine wi_iload_n rfl rfl ?_
  refine wi_bipush (x := 8) rfl rfl ?_
  refine wi_brF rfl rfl ?_
  refine wi_aload_n rfl rfl ?_
  refine wi_getR rfl rfl rfl ?_
  refine wi_iload_n rfl rfl ?_
  refine wi_aaload rfl (Or.inr rfl) rfl (q := 7) rfl rfl ?_
  refine wi_iload_n rfl rfl ?_
  refine wi_bipush (x := 50) rfl rfl ?_
  refine wi_iastore rfl rfl rfl (q := 3) rfl ?_
  refine wi_iinc (z := 4) rfl rfl rfl rfl rfl ?_
  refine wi_goto rfl ?_
  refine wi_iload_n rfl rfl ?_
  refine wi_bipush (x := 8) rfl rfl ?_
  refine wi_brF rfl rfl ?_
  refine wi_aload_n rfl rfl ?_
  refine wi_getR rfl rfl rfl ?_
  refine wi_iload_n rfl rfl ?_
  refine wi_aaload rfl (Or.inr rfl) rfl (q := 7) rfl rfl ?_
  refine wi_iload_n rfl rfl ?_
  refine wi_bipush (x := 50) rfl rfl ?_
  refine wi_iastore rfl rfl rfl (q := 4) rfl ?_
  refine wi_iinc (z := 5) rfl rfl rfl rfl rfl ?_
  refine wi_goto rfl ?_
  refine wi_iload_n rfl rfl ?_
  refine wi_bipush (x := 8) rfl rfl ?_
  refine wi_brF rfl rfl ?_
  refine wi_aload_n rfl rfl ?_
  refine wi_getR rfl rfl rfl ?_
  refine wi_iload_n rfl rfl ?_
  refine wi_aaload rfl (Or.inr rfl) rfl (q := 7) rfl rfl ?_
  refine wi_iload_n rfl rfl ?_
  refine wi_bipush (x := 50) rfl rfl ?_
  refine wi_iastore rfl rfl rfl (q := 5) rfl ?_
  refine wi_iinc (z := 6) rfl rfl rfl rfl rfl ?_
  refine wi_goto rfl ?_
  refine wi_iload_n rfl rfl ?_
  refine wi_bipush (x := 8) rfl rfl ?_
  refine wi_brF rfl rfl ?_
  refine wi_aload_n rfl rfl ?_
  refine wi_getR rfl rfl rfl ?_
  refine wi_iload_n rfl rfl ?_
  refine wi_aaload rfl (Or.inr rfl) rfl (q := 7) rfl rfl ?_
  refine wi_iload_n rfl rfl ?_
  refine wi_bipush (x := 50) rfl rfl ?_
  refine wi_iastore rfl rfl rfl (q := 6) rfl ?_
  refine wi_iinc (z := 7) rfl rfl rfl rfl rfl ?_
  refine wi_goto rfl ?_
  refine wi_iload_n rfl rfl ?_
  refine wi_bipush (x := 8) rfl rfl ?_
  refine wi_brF rfl rfl ?_
  refine wi_aload_n rfl rfl ?_
  refine wi_getR rfl rfl rfl ?_
  refine wi_iload_n rfl rfl ?_
  refine wi_aaload rfl (Or.inr rfl) rfl (q := 7) rfl rfl ?_
  refine wi_iload_n rfl rfl ?_
  refine wi_bipush (x := 50) rfl rfl ?_
  refine wi_iastore rfl rfl rfl (q := 7) rfl ?_
  refine wi_iinc (z := 8) rfl rfl rfl rfl rfl ?_
  refine wi_goto rfl ?_
  refine wi_iload_n rfl rfl ?_
  refine wi_bipush (x := 8) rfl rfl ?_
  refine wi_brT rfl rfl ?_
  refine wi_iinc (z := 8) rfl rfl rfl rfl rfl ?_
  refine wi_goto rfl ?_
  refine wi_iload_n rfl rfl ?_
  refine wi_bipush (x := 8) rfl rfl ?_
  refine wi_brT rfl rfl ?_
  refine wi_ret rfl ?_
  refine wi_putR rfl ⟨rfl, Nat.le_of_ble_eq_true rfl, Nat.le_of_ble_eq_true rfl⟩ rfl ?_
  refine am_norm (sh' := am_shT.take 75) (mr' := am_mr12) rfl rfl ?_
  refine wi_aload_n rfl rfl ?_
  refine wi_new rfl rfl (q := 75) rfl (n := 6) rfl ?_
  refine wi_dup rfl rfl ?_
  refine wi_callI0 rfl (by decide) (by decide) rfl rfl rfl rfl rfl ?_
  refine wi_aload_n rfl rfl ?_
  refine wi_obj rfl rfl ?_
  refine wi_aload_n rfl rfl ?_
  refine wi_bipush (x := 8) rfl rfl ?_
  refine wi_iconst (x := 3) rfl rfl ?_
  refine wi_mna rfl ⟨by decide, by decide, by decide, by decide⟩ (n := 8) rfl (m := 3) rfl (q := 76) rfl ?_
  refine am_norm (sh' := am_shT.take 85) (mr' := am_mr13) rfl rfl ?_
  refine wi_putR rfl ⟨rfl, Nat.le_of_ble_eq_true rfl, Nat.le_of_ble_eq_true rfl⟩ rfl ?_
  refine wi_aload_n rfl rfl ?_
  refine wi_bipush (x := 8) rfl rfl ?_
  refine wi_iconst (x := 3) rfl rfl ?_
  refine wi_mna rfl ⟨by decide, by decide, by decide, by decide⟩ (n := 8) rfl (m := 3) rfl (q := 85) rfl ?_
  refine am_norm (sh' := am_shT.take 94) (mr' := am_mr14) rfl rfl ?_
  refine wi_putR rfl ⟨rfl, Nat.le_of_ble_eq_true rfl, Nat.le_of_ble_eq_true rfl⟩ rfl ?_
  refine wi_aload_n rfl rfl ?_
  refine wi_iconst (x := 3) rfl rfl ?_
  refine wi_newarray rfl ⟨by decide, by decide, by decide⟩ (t := 103) rfl (n := 3) rfl (q := 94) rfl ?_
  refine wi_putR rfl ⟨rfl, Nat.le_of_ble_eq_true rfl, Nat.le_of_ble_eq_true rfl⟩ rfl ?_
  refine wi_aload_n rfl rfl ?_
  refine wi_iconst (x := 3) rfl rfl ?_
  refine wi_newarray rfl ⟨by decide, by decide, by decide⟩ (t := 103) rfl (n := 3) rfl (q := 95) rfl ?_
  refine wi_putR rfl ⟨rfl, Nat.le_of_ble_eq_true rfl, Nat.le_of_ble_eq_true rfl⟩ rfl ?_
  refine wi_aload_n rfl rfl ?_
  refine wi_lconst (lx := 0) rfl rfl ?_
  refine wi_putL rfl rfl ?_
  refine wi_aload_n rfl rfl ?_
  refine wi_lconst (lx := 0) rfl rfl ?_
  refine wi_putL rfl rfl ?_
  refine wi_ret rfl ?_
  refine wi_putR rfl ⟨rfl, Nat.le_of_ble_eq_true rfl, Nat.le_of_ble_eq_true rfl⟩ rfl ?_
  refine wi_aload_n rfl rfl ?_
  refine wi_new rfl rfl (q := 96) rfl (n := 2) rfl ?_
  refine wi_dup rfl rfl ?_
  refine wi_callI0 rfl (by decide) (by decide) rfl rfl rfl rfl rfl ?_
  refine wi_aload_n rfl rfl ?_
  refine wi_obj rfl rfl ?_
  refine wi_aload_n rfl rfl ?_
  refine wi_lconst (lx := 0) rfl rfl ?_
  refine wi_putL rfl rfl ?_
  refine wi_aload_n rfl rfl ?_
  refine wi_lconst (lx := 1) rfl rfl ?_
  refine wi_putL rfl rfl ?_
  refine wi_ret rfl ?_
  refine wi_putR rfl ⟨rfl, Nat.le_of_ble_eq_true rfl, Nat.le_of_ble_eq_true rfl⟩ rfl ?_
  refine am_norm (sh' := am_shT.take 97) (mr' := am_mr15) rfl rfl ?_
  refine wi_aload_n rfl rfl ?_
  refine wi_new rfl rfl (q := 97) rfl (n := 5) rfl ?_
  refine wi_dup rfl rfl ?_
  refine wi_callI0 rfl (by decide) (by decide) rfl rfl rfl rfl rfl ?_
  refine wi_aload_n rfl rfl ?_
  refine wi_obj rfl rfl ?_
  refine wi_aload_n rfl rfl ?_
  refine wi_bipush (x := 8) rfl rfl ?_
  refine wi_newarray rfl ⟨by decide, by decide, by decide⟩ (t := 100) rfl (n := 8) rfl (q := 98) rfl ?_
  refine wi_putR rfl ⟨rfl, Nat.le_of_ble_eq_true rfl, Nat.le_of_ble_eq_true rfl⟩ rfl ?_
  refine wi_aload_n rfl rfl ?_
  refine wi_bipush (x := 8) rfl rfl ?_
  refine wi_bipush (x := 6) rfl rfl ?_
  refine wi_mna rfl ⟨by decide, by decide, by decide, by decide⟩ (n := 8) rfl (m := 6) rfl (q := 99) rfl ?_
  refine am_norm (sh' := am_shT.take 108) (mr' := am_mr16) rfl rfl ?_
  refine wi_putR rfl ⟨rfl, Nat.le_of_ble_eq_true rfl, Nat.le_of_ble_eq_true rfl⟩ rfl ?_
  refine wi_aload_n rfl rfl ?_
  refine wi_bipush (x := 8) rfl rfl ?_
  refine wi_bipush (x := 6) rfl rfl ?_
  refine wi_mna rfl ⟨by decide, by decide, by decide, by decide⟩ (n := 8) rfl (m := 6) rfl (q := 108) rfl ?_
  refine am_norm (sh' := am_shT.take 117) (mr' := am_mr17) rfl rfl ?_
  refine wi_putR rfl ⟨rfl, Nat.le_of_ble_eq_true rfl, Nat.le_of_ble_eq_true rfl⟩ rfl ?_
  refine wi_aload_n rfl rfl ?_
  refine wi_bipush (x := 8) rfl rfl ?_
  refine wi_bipush (x := 6) rfl rfl ?_
  refine wi_mna rfl ⟨by decide, by decide, by decide, by decide⟩ (n := 8) rfl (m := 6) rfl (q := 117) rfl ?_
  refine am_norm (sh' := am_shT.take 126) (mr' := am_mr18) rfl rfl ?_
  refine wi_putR rfl ⟨rfl, Nat.le_of_ble_eq_true rfl, Nat.le_of_ble_eq_true rfl⟩ rfl ?_
  refine wi_aload_n rfl rfl ?_
  refine wi_iconst (x := 0) rfl rfl ?_
  refine wi_putI rfl rfl ?_
  refine wi_ret rfl ?_
  refine wi_putR rfl ⟨rfl, Nat.le_of_ble_eq_true rfl, Nat.le_of_ble_eq_true rfl⟩ rfl ?_
  refine wi_aload_n rfl rfl ?_
  refine wi_iconst (x := 0) rfl rfl ?_
  refine wi_putI rfl rfl ?_
  refine wi_aload_n rfl rfl ?_
  refine wi_iconst (x := 0) rfl rfl ?_
  refine wi_putI rfl rfl ?_
  refine wi_aload_n rfl rfl ?_
  refine wi_iconst (x := 0) rfl rfl ?_
  refine wi_putI rfl rfl ?_
  refine wi_iconst (x := 0) rfl rfl ?_
  refine wi_istore_n rfl (Nat.le_of_ble_eq_true rfl) rfl rfl ?_
  refine wi_iload_n rfl rfl ?_
  refine wi_bipush (x := 8) rfl rfl ?_
  refine wi_brF rfl rfl ?_
  refine wi_aload_n rfl rfl ?_
  refine wi_getR rfl rfl rfl ?_
  refine wi_iload_n rfl rfl ?_
  refine wi_new rfl rfl (q := 126) rfl (n := 8) rfl ?_
  refine wi_dup rfl rfl ?_
  refine wi_callI0 rfl (by decide) (by decide) rfl rfl rfl rfl rfl ?_
  refine wi_aload_n rfl rfl ?_
  refine wi_obj rfl rfl ?_
  refine wi_aload_n rfl rfl ?_
  refine wi_bipush (x := 40) rfl rfl ?_
  refine wi_putI rfl rfl ?_
  refine wi_aload_n rfl rfl ?_
  refine wi_bipush (x := 40) rfl rfl ?_
  refine wi_putI rfl rfl ?_
  refine wi_aload_n rfl rfl ?_
  refine wi_bipush (x := 40) rfl rfl ?_
  refine wi_putI rfl rfl ?_
  refine wi_aload_n rfl rfl ?_
  refine wi_bipush (x := 12) rfl rfl ?_
  refine wi_putI rfl rfl ?_
  refine wi_aload_n rfl rfl ?_
  refine wi_bipush (x := 30) rfl rfl ?_
  refine wi_putI rfl rfl ?_
  refine wi_aload_n rfl rfl ?_
  refine wi_iconst (x := 0) rfl rfl ?_
  refine wi_putI rfl rfl ?_
  refine wi_aload_n rfl rfl ?_
  refine wi_iconst (x := 0) rfl rfl ?_
  refine wi_putI rfl rfl ?_
  refine wi_aload_n rfl rfl ?_
  refine wi_iconst (x := 0) rfl rfl ?_
  refine wi_putI rfl rfl ?_
  refine wi_ret rfl ?_
  refine wi_aastore rfl rfl rfl (q := 0) rfl ⟨rfl, by decide, by decide⟩ ?_
  refine wi_iinc (z := 1) rfl rfl rfl rfl rfl ?_
  refine wi_goto rfl ?_
  refine wi_iload_n rfl rfl ?_
  refine wi_bipush (x := 8) rfl rfl ?_
  refine wi_brF rfl rfl ?_
  refine wi_aload_n rfl rfl ?_
  refine wi_getR rfl rfl rfl ?_
  refine wi_iload_n rfl rfl ?_
  refine wi_new rfl rfl (q := 127) rfl (n := 8) rfl ?_
  refine wi_dup rfl rfl ?_
  refine wi_callI0 rfl (by decide) (by decide) rfl rfl rfl rfl rfl ?_
  refine wi_aload_n rfl rfl ?_
  refine wi_obj rfl rfl ?_
  refine wi_aload_n rfl rfl ?_
  refine wi_bipush (x := 40) rfl rfl ?_
  refine wi_putI rfl rfl ?_
  refine wi_aload_n rfl rfl ?_
  refine wi_bipush (x := 40) rfl rfl ?_
  refine wi_putI rfl rfl ?_
  refine wi_aload_n rfl rfl ?_
  refine wi_bipush (x := 40) rfl rfl ?_
  refine wi_putI rfl rfl ?_
  refine wi_aload_n rfl rfl ?_
  refine wi_bipush (x := 12) rfl rfl ?_
  refine wi_putI rfl rfl ?_
  refine wi_aload_n rfl rfl ?_
  refine wi_bipush (x := 30) rfl rfl ?_
  refine wi_putI rfl rfl ?_
  refine wi_aload_n rfl rfl ?_
  refine wi_iconst (x := 0) rfl rfl ?_
  refine wi_putI rfl rfl ?_
  refine wi_aload_n rfl rfl ?_
  refine wi_iconst (x := 0) rfl rfl ?_
  refine wi_putI rfl rfl ?_
  refine wi_aload_n rfl rfl ?_
  refine wi_iconst (x := 0) rfl rfl ?_
  refine wi_putI rfl rfl ?_
  refine wi_ret rfl ?_
  refine wi_aastore rfl rfl rfl (q := 1) rfl ⟨rfl, by decide, by decide⟩ ?_
  refine wi_iinc (z := 2) rfl rfl rfl rfl rfl ?_
  refine wi_goto rfl ?_
  refine wi_iload_n rfl rfl ?_
  refine wi_bipush (x := 8) rfl rfl ?_
  refine wi_brF rfl rfl ?_
  refine wi_aload_n rfl rfl ?_
  refine wi_getR rfl rfl rfl ?_
  refine wi_iload_n rfl rfl ?_
  refine wi_new rfl rfl (q := 128) rfl (n := 8) rfl ?_
  refine wi_dup rfl rfl ?_
  refine wi_callI0 rfl (by decide) (by decide) rfl rfl rfl rfl rfl ?_
  refine wi_aload_n rfl rfl ?_
  refine wi_obj rfl rfl ?_
  refine wi_aload_n rfl rfl ?_
  refine wi_bipush (x := 40) rfl rfl ?_
  refine wi_putI rfl rfl ?_
  refine wi_aload_n rfl rfl ?_
  refine wi_bipush (x := 40) rfl rfl ?_
  refine wi_putI rfl rfl ?_
  refine wi_aload_n rfl rfl ?_
  refine wi_bipush (x := 40) rfl rfl ?_
  refine wi_putI rfl rfl ?_
  refine wi_aload_n rfl rfl ?_
  refine wi_bipush (x := 12) rfl rfl ?_
  refine wi_putI rfl rfl ?_
  refine wi_aload_n rfl rfl ?_
  refine wi_bipush (x := 30) rfl rfl ?_
  refine wi_putI rfl rfl ?_
  refine wi_aload_n rfl rfl ?_
  refine wi_iconst (x := 0) rfl rfl ?_
  refine wi_putI rfl rfl ?_
  refine wi_aload_n rfl rfl ?_
  refine wi_iconst (x := 0) rfl rfl ?_
  refine wi_putI rfl rfl ?_
  refine wi_aload_n rfl rfl ?_
  refine wi_iconst (x := 0) rfl rfl ?_
  refine wi_putI rfl rfl ?_
  refine wi_ret rfl ?_
  refine wi_aastore rfl rfl rfl (q := 2) rfl ⟨rfl, by decide, by decide⟩ ?_
  refine am_norm (sh' := am_shT.take 129) (mr' := am_mr19) rfl rfl ?_
  refine wi_iinc (z := 3) rfl rfl rfl rfl rfl ?_
  refine wi_goto rfl ?_
  refine wi_iload_n rfl rfl ?_
  refine wi_bipush (x := 8) rfl rfl ?_
  refine wi_brF rfl rfl ?_
  refine wi_aload_n rfl rfl ?_
  refine wi_getR rfl rfl rfl ?_
  refine wi_iload_n rfl rfl ?_
  refine wi_new rfl rfl (q := 129) rfl (n := 8) rfl ?_
  refine wi_dup rfl rfl ?_
  refine wi_callI0 rfl (by decide) (by decide) rfl rfl rfl rfl rfl ?_
  refine wi_aload_n rfl rfl ?_
  refine wi_obj rfl rfl ?_
  refine wi_aload_n rfl rfl ?_
  refine wi_bipush (x := 40) rfl rfl ?_
  refine wi_putI rfl rfl ?_
  refine wi_aload_n rfl rfl ?_
  refine wi_bipush (x := 40) rfl rfl ?_
  refine wi_putI rfl rfl ?_
  refine wi_aload_n rfl rfl ?_
  refine wi_bipush (x := 40) rfl rfl ?_
  refine wi_putI rfl rfl ?_
  refine wi_aload_n rfl rfl ?_
  refine wi_bipush (x := 12) rfl rfl ?_
  refine wi_putI rfl rfl ?_
  refine wi_aload_n rfl rfl ?_
  refine wi_bipush (x := 30) rfl rfl ?_
  refine wi_putI rfl rfl ?_
  refine wi_aload_n rfl rfl ?_
  refine wi_iconst (x := 0) rfl rfl ?_
  refine wi_putI rfl rfl ?_
  refine wi_aload_n rfl rfl ?_
  refine wi_iconst (x := 0) rfl rfl ?_
  refine wi_putI rfl rfl ?_
  refine wi_aload_n rfl rfl ?_
  refine wi_iconst (x := 0) rfl rfl ?_
  refine wi_putI rfl rfl ?_
  refine wi_ret rfl ?_
  refine wi_aastore rfl rfl rfl (q := 3) rfl ⟨rfl, by decide, by decide⟩ ?_
  refine wi_iinc (z := 4) rfl rfl rfl rfl rfl ?_
  refine wi_goto rfl ?_
  refine wi_iload_n rfl rfl ?_
  refine wi_bipush (x := 8) rfl rfl ?_
  refine wi_brF rfl rfl ?_
  refine wi_aload_n rfl rfl ?_
  refine wi_getR rfl rfl rfl ?_
  refine wi_iload_n rfl rfl ?_
  refine wi_new rfl rfl (q := 130) rfl (n := 8) rfl ?_
  refine wi_dup rfl rfl ?_
  refine wi_callI0 rfl (by decide) (by decide) rfl rfl rfl rfl rfl ?_
  refine wi_aload_n rfl rfl ?_
  refine wi_obj rfl rfl ?_
  refine wi_aload_n rfl rfl ?_
  refine wi_bipush (x := 40) rfl rfl ?_
  refine wi_putI rfl rfl ?_
  refine wi_aload_n rfl rfl ?_
  refine wi_bipush (x := 40) rfl rfl ?_
  refine wi_putI rfl rfl ?_
  refine wi_aload_n rfl rfl ?_
  refine wi_bipush (x := 40) rfl rfl ?_
  refine wi_putI rfl rfl ?_
  refine wi_aload_n rfl rfl ?_
  refine wi_bipush (x := 12) rfl rfl ?_
  refine wi_putI rfl rfl ?_
  refine wi_aload_n rfl rfl ?_
  refine wi_bipush (x := 30) rfl rfl ?_
  refine wi_putI rfl rfl ?_
  refine wi_aload_n rfl rfl ?_
  refine wi_iconst (x := 0) rfl rfl ?_
  refine wi_putI rfl rfl ?_
  refine wi_aload_n rfl rfl ?_
  refine wi_iconst (x := 0) rfl rfl ?_
  refine wi_putI rfl rfl ?_
  refine wi_aload_n rfl rfl ?_
  refine wi_iconst (x := 0) rfl rfl ?_
  refine wi_putI rfl rfl ?_
  refine wi_ret rfl ?_
  refine wi_aastore rfl rfl rfl (q := 4) rfl ⟨rfl, by decide, by decide⟩ ?_
  refine wi_iinc (z := 5) rfl rfl rfl rfl rfl ?_
  refine wi_goto rfl ?_
  refine wi_iload_n rfl rfl ?_
  refine wi_bipush (x := 8) rfl rfl ?_
  refine wi_brF rfl rfl ?_
  refine wi_aload_n rfl rfl ?_
  refine wi_getR rfl rfl rfl ?_
  refine wi_iload_n rfl rfl ?_
  refine wi_new rfl rfl (q := 131) rfl (n := 8) rfl ?_
  refine wi_dup rfl rfl ?_
  refine wi_callI0 rfl (by decide) (by decide) rfl rfl rfl rfl rfl ?_
  refine wi_aload_n rfl rfl ?_
  refine wi_obj rfl rfl ?_
  refine wi_aload_n rfl rfl ?_
  refine wi_bipush (x := 40) rfl rfl ?_
  refine wi_putI rfl rfl ?_
  refine wi_aload_n rfl rfl ?_
  refine wi_bipush (x := 40) rfl rfl ?_
  refine wi_putI rfl rfl ?_
  refine wi_aload_n rfl rfl ?_
  refine wi_bipush (x := 40) rfl rfl ?_
  refine wi_putI rfl rfl ?_
  refine wi_aload_n rfl rfl ?_
  refine wi_bipush (x := 12) rfl rfl ?_
  refine wi_putI rfl rfl ?_
  refine wi_aload_n rfl rfl ?_
  refine wi_bipush (x := 30) rfl rfl ?_
  refine wi_putI rfl rfl ?_
  refine wi_aload_n rfl rfl ?_
  refine wi_iconst (x := 0) rfl rfl ?_
  refine wi_putI rfl rfl ?_
  refine wi_aload_n rfl rfl ?_
  refine wi_iconst (x := 0) rfl rfl ?_
  refine wi_putI rfl rfl ?_
  refine wi_aload_n rfl rfl ?_
  refine wi_iconst (x := 0) rfl rfl ?_
  refine wi_putI rfl rfl ?_
  refine wi_ret rfl ?_
  refine wi_aastore rfl rfl rfl (q := 5) rfl ⟨rfl, by decide, by decide⟩ ?_
  refine wi_iinc (z := 6) rfl rfl rfl rfl rfl ?_
  refine wi_goto rfl ?_
  refine wi_iload_n rfl rfl ?_
  refine wi_bipush (x := 8) rfl rfl ?_
  refine wi_brF rfl rfl ?_
  refine wi_aload_n rfl rfl ?_
  refine wi_getR rfl rfl rfl ?_
  refine wi_iload_n rfl rfl ?_
  refine wi_new rfl rfl (q := 132) rfl (n := 8) rfl ?_
  refine wi_dup rfl rfl ?_
  refine wi_callI0 rfl (by decide) (by decide) rfl rfl rfl rfl rfl ?_
  refine wi_aload_n rfl rfl ?_
  refine wi_obj rfl rfl ?_
  refine wi_aload_n rfl rfl ?_
  refine wi_bipush (x := 40) rfl rfl ?_
  refine wi_putI rfl rfl ?_
  refine wi_aload_n rfl rfl ?_
  refine wi_bipush (x := 40) rfl rfl ?_
  refine wi_putI rfl rfl ?_
  refine wi_aload_n rfl rfl ?_
  refine wi_bipush (x := 40) rfl rfl ?_
  refine wi_putI rfl rfl ?_
  refine wi_aload_n rfl rfl ?_
  refine wi_bipush (x := 12) rfl rfl ?_
  refine wi_putI rfl rfl ?_
  refine wi_aload_n rfl rfl ?_
  refine wi_bipush (x := 30) rfl rfl ?_
  refine wi_putI rfl rfl ?_
  refine wi_aload_n rfl rfl ?_
  refine wi_iconst (x := 0) rfl rfl ?_
  refine wi_putI rfl rfl ?_
  refine wi_aload_n rfl rfl ?_
  refine wi_iconst (x := 0) rfl rfl ?_
  refine wi_putI rfl rfl ?_
  refine wi_aload_n rfl rfl ?_
  refine wi_iconst (x := 0) rfl rfl ?_
  refine wi_putI rfl rfl ?_
  refine wi_ret rfl ?_
  refine wi_aastore rfl rfl rfl (q := 6) rfl ⟨rfl, by decide, by decide⟩ ?_
  refine am_norm (sh' := am_shT.take 133) (mr' := am_mr20) rfl rfl ?_
  refine wi_iinc (z := 7) rfl rfl rfl rfl rfl ?_
  refine wi_goto rfl ?_
  refine wi_iload_n rfl rfl ?_
  refine wi_bipush (x := 8) rfl rfl ?_
  refine wi_brF rfl rfl ?_
  refine wi_aload_n rfl rfl ?_
  refine wi_getR rfl rfl rfl ?_
  refine wi_iload_n rfl rfl ?_
  refine wi_new rfl rfl (q := 133) rfl (n := 8) rfl ?_
  refine wi_dup rfl rfl ?_
  refine wi_callI0 rfl (by decide) (by decide) rfl rfl rfl rfl rfl ?_
  refine wi_aload_n rfl rfl ?_
  refine wi_obj rfl rfl ?_
  refine wi_aload_n rfl rfl ?_
  refine wi_bipush (x := 40) rfl rfl ?_
  refine wi_putI rfl rfl ?_
  refine wi_aload_n rfl rfl ?_
  refine wi_bipush (x := 40) rfl rfl ?_
  refine wi_putI rfl rfl ?_
  refine wi_aload_n rfl rfl ?_
  refine wi_bipush (x := 40) rfl rfl ?_
  refine wi_putI rfl rfl ?_
  refine wi_aload_n rfl rfl ?_
  refine wi_bipush (x := 12) rfl rfl ?_
  refine wi_putI rfl rfl ?_
  refine wi_aload_n rfl rfl ?_
  refine wi_bipush (x := 30) rfl rfl ?_
  refine wi_putI rfl rfl ?_
  refine wi_aload_n rfl rfl ?_
  refine wi_iconst (x := 0) rfl rfl ?_
  refine wi_putI rfl rfl ?_
  refine wi_aload_n rfl rfl ?_
  refine wi_iconst (x := 0) rfl rfl ?_
  refine wi_putI rfl rfl ?_
  refine wi_aload_n rfl rfl ?_
  refine wi_iconst (x := 0) rfl rfl ?_
  refine wi_putI rfl rfl ?_
  refine wi_ret rfl ?_
  refine wi_aastore rfl rfl rfl (q := 7) rfl ⟨rfl, by decide, by decide⟩ ?_
  refine wi_iinc (z := 8) rfl rfl rfl rfl rfl ?_
  refine wi_goto rfl ?_
  refine wi_iload_n rfl rfl ?_
  refine wi_bipush (x := 8) rfl rfl ?_
  refine wi_brT rfl rfl ?_
  refine wi_ret rfl ?_
  refine wi_astore_n rfl (Nat.le_of_ble_eq_true rfl) rfl rfl ?_
  refine wi_new rfl rfl (q := 134) rfl (n := 58) rfl ?_
  refine wi_dup rfl rfl ?_
  refine wi_callI0 rfl (by decide) (by decide) rfl rfl rfl rfl rfl ?_
  refine wi_aload_n rfl rfl ?_
  refine wi_obj rfl rfl ?_
  refine wi_aload_n rfl rfl ?_
  refine wi_lconst (lx := 1) rfl rfl ?_
  refine wi_putL rfl rfl ?_
  refine wi_aload_n rfl rfl ?_
  refine wi_bipush (x := 48) rfl rfl ?_
  refine wi_newarray rfl ⟨by decide, by decide, by decide⟩ (t := 100) rfl (n := 48) rfl (q := 135) rfl ?_
  refine wi_putR rfl ⟨rfl, Nat.le_of_ble_eq_true rfl, Nat.le_of_ble_eq_true rfl⟩ rfl ?_
  refine wi_aload_n rfl rfl ?_
  refine wi_bipush (x := 8) rfl rfl ?_
  refine wi_newarray rfl ⟨by decide, by decide, by decide⟩ (t := 100) rfl (n := 8) rfl (q := 136) rfl ?_
  refine wi_putR rfl ⟨rfl, Nat.le_of_ble_eq_true rfl, Nat.le_of_ble_eq_true rfl⟩ rfl ?_
  refine wi_aload_n rfl rfl ?_
  refine wi_bipush (x := 8) rfl rfl ?_
  refine wi_newarray rfl ⟨by decide, by decide, by decide⟩ (t := 100) rfl (n := 8) rfl (q := 137) rfl ?_
  refine am_norm (sh' := am_shT.take 138) (mr' := am_mr21) rfl rfl ?_
  refine wi_putR rfl ⟨rfl, Nat.le_of_ble_eq_true rfl, Nat.le_of_ble_eq_true rfl⟩ rfl ?_
  refine wi_aload_n rfl rfl ?_
  refine wi_sipush (x := 1000) rfl rfl ?_
  refine wi_newarray rfl ⟨by decide, by decide, by decide⟩ (t := 100) rfl (n := 1000) rfl (q := 138) rfl ?_
  refine wi_putR rfl ⟨rfl, Nat.le_of_ble_eq_true rfl, Nat.le_of_ble_eq_true rfl⟩ rfl ?_
  refine wi_aload_n rfl rfl ?_
  refine wi_sipush (x := 1000) rfl rfl ?_
  refine wi_newarray rfl ⟨by decide, by decide, by decide⟩ (t := 100) rfl (n := 1000) rfl (q := 139) rfl ?_
  refine wi_putR rfl ⟨rfl, Nat.le_of_ble_eq_true rfl, Nat.le_of_ble_eq_true rfl⟩ rfl ?_
  refine wi_aload_n rfl rfl ?_
  refine wi_sipush (x := 1000) rfl rfl ?_
  refine wi_newarray rfl ⟨by decide, by decide, by decide⟩ (t := 100) rfl (n := 1000) rfl (q := 140) rfl ?_
  refine wi_putR rfl ⟨rfl, Nat.le_of_ble_eq_true rfl, Nat.le_of_ble_eq_true rfl⟩ rfl ?_
  refine wi_aload_n rfl rfl ?_
  refine wi_sipush (x := 1000) rfl rfl ?_
  refine wi_newarray rfl ⟨by decide, by decide, by decide⟩ (t := 100) rfl (n := 1000) rfl (q := 141) rfl ?_
  refine am_norm (sh' := am_shT.take 142) (mr' := am_mr22) rfl rfl ?_
  refine wi_putR rfl ⟨rfl, Nat.le_of_ble_eq_true rfl, Nat.le_of_ble_eq_true rfl⟩ rfl ?_
  refine wi_aload_n rfl rfl ?_
  refine wi_bipush (x := 6) rfl rfl ?_
  refine wi_newarray rfl ⟨by decide, by decide, by decide⟩ (t := 100) rfl (n := 6) rfl (q := 142) rfl ?_
  refine wi_putR rfl ⟨rfl, Nat.le_of_ble_eq_true rfl, Nat.le_of_ble_eq_true rfl⟩ rfl ?_
  refine wi_aload_n rfl rfl ?_
  refine wi_sipush (x := 200) rfl rfl ?_
  refine wi_newarray rfl ⟨by decide, by decide, by decide⟩ (t := 100) rfl (n := 200) rfl (q := 143) rfl ?_
  refine wi_putR rfl ⟨rfl, Nat.le_of_ble_eq_true rfl, Nat.le_of_ble_eq_true rfl⟩ rfl ?_
  refine wi_aload_n rfl rfl ?_
  refine wi_sipush (x := 200) rfl rfl ?_
  refine wi_newarray rfl ⟨by decide, by decide, by decide⟩ (t := 100) rfl (n := 200) rfl (q := 144) rfl ?_
  refine wi_putR rfl ⟨rfl, Nat.le_of_ble_eq_true rfl, Nat.le_of_ble_eq_true rfl⟩ rfl ?_
  refine wi_aload_n rfl rfl ?_
  refine wi_sipush (x := 200) rfl rfl ?_
  refine wi_newarray rfl ⟨by decide, by decide, by decide⟩ (t := 100) rfl (n := 200) rfl (q := 145) rfl ?_
  refine am_norm (sh' := am_shT.take 146) (mr' := am_mr23) rfl rfl ?_
  refine wi_putR rfl ⟨rfl, Nat.le_of_ble_eq_true rfl, Nat.le_of_ble_eq_true rfl⟩ rfl ?_
  refine wi_aload_n rfl rfl ?_
  refine wi_bipush (x := 6) rfl rfl ?_
  refine wi_newarray rfl ⟨by decide, by decide, by decide⟩ (t := 100) rfl (n := 6) rfl (q := 146) rfl ?_
  refine wi_putR rfl ⟨rfl, Nat.le_of_ble_eq_true rfl, Nat.le_of_ble_eq_true rfl⟩ rfl ?_
  refine wi_aload_n rfl rfl ?_
  refine wi_bipush (x := 6) rfl rfl ?_
  refine wi_newarray rfl ⟨by decide, by decide, by decide⟩ (t := 100) rfl (n := 6) rfl (q := 147) rfl ?_
  refine wi_putR rfl ⟨rfl, Nat.le_of_ble_eq_true rfl, Nat.le_of_ble_eq_true rfl⟩ rfl ?_
  refine wi_aload_n rfl rfl ?_
  refine wi_bipush (x := 10) rfl rfl ?_
  refine wi_putI rfl rfl ?_
  refine wi_aload_n rfl rfl ?_
  refine wi_bipush (x := 20) rfl rfl ?_
  refine wi_putI rfl rfl ?_
  refine wi_aload_n rfl rfl ?_
  refine wi_bipush (x := 8) rfl rfl ?_
  refine wi_newarray rfl ⟨by decide, by decide, by decide⟩ (t := 100) rfl (n := 8) rfl (q := 148) rfl ?_
  refine wi_putR rfl ⟨rfl, Nat.le_of_ble_eq_true rfl, Nat.le_of_ble_eq_true rfl⟩ rfl ?_
  refine wi_aload_n rfl rfl ?_
  refine wi_bipush (x := 8) rfl rfl ?_
  refine wi_newarray rfl ⟨by decide, by decide, by decide⟩ (t := 100) rfl (n := 8) rfl (q := 149) rfl ?_
  refine am_norm (sh' := am_shT.take 150) (mr' := am_mr24) rfl rfl ?_
  refine wi_putR rfl ⟨rfl, Nat.le_of_ble_eq_true rfl, Nat.le_of_ble_eq_true rfl⟩ rfl ?_
  refine wi_aload_n rfl rfl ?_
  refine wi_bipush (x := 64) rfl rfl ?_
  refine wi_newarray rfl ⟨by decide, by decide, by decide⟩ (t := 100) rfl (n := 64) rfl (q := 150) rfl ?_
  refine wi_putR rfl ⟨rfl, Nat.le_of_ble_eq_true rfl, Nat.le_of_ble_eq_true rfl⟩ rfl ?_
  refine wi_aload_n rfl rfl ?_
  refine wi_bipush (x := 8) rfl rfl ?_
  refine wi_newarray rfl ⟨by decide, by decide, by decide⟩ (t := 100) rfl (n := 8) rfl (q := 151) rfl ?_
  refine wi_putR rfl ⟨rfl, Nat.le_of_ble_eq_true rfl, Nat.le_of_ble_eq_true rfl⟩ rfl ?_
  refine wi_aload_n rfl rfl ?_
  refine wi_bipush (x := 8) rfl rfl ?_
  refine wi_newarray rfl ⟨by decide, by decide, by decide⟩ (t := 100) rfl (n := 8) rfl (q := 152) rfl ?_
  refine wi_putR rfl ⟨rfl, Nat.le_of_ble_eq_true rfl, Nat.le_of_ble_eq_true rfl⟩ rfl ?_
  refine wi_aload_n rfl rfl ?_
  refine wi_bipush (x := 9) rfl rfl ?_
  refine wi_newarray rfl ⟨by decide, by decide, by decide⟩ (t := 100) rfl (n := 9) rfl (q := 153) rfl ?_
  refine am_norm (sh' := am_shT.take 154) (mr' := am_mr25) rfl rfl ?_
  refine wi_putR rfl ⟨rfl, Nat.le_of_ble_eq_true rfl, Nat.le_of_ble_eq_true rfl⟩ rfl ?_
  refine wi_aload_n rfl rfl ?_
  refine wi_bipush (x := 100) rfl rfl ?_
  refine wi_newarray rfl ⟨by decide, by decide, by decide⟩ (t := 100) rfl (n := 100) rfl (q := 154) rfl ?_
  refine wi_putR rfl ⟨rfl, Nat.le_of_ble_eq_true rfl, Nat.le_of_ble_eq_true rfl⟩ rfl ?_
  refine wi_aload_n rfl rfl ?_
  refine wi_bipush (x := 100) rfl rfl ?_
  refine wi_newarray rfl ⟨by decide, by decide, by decide⟩ (t := 100) rfl (n := 100) rfl (q := 155) rfl ?_
  refine wi_putR rfl ⟨rfl, Nat.le_of_ble_eq_true rfl, Nat.le_of_ble_eq_true rfl⟩ rfl ?_
  refine wi_aload_n rfl rfl ?_
  refine wi_bipush (x := 100) rfl rfl ?_
  refine wi_newarray rfl ⟨by decide, by decide, by decide⟩ (t := 100) rfl (n := 100) rfl (q := 156) rfl ?_
  refine wi_putR rfl ⟨rfl, Nat.le_of_ble_eq_true rfl, Nat.le_of_ble_eq_true rfl⟩ rfl ?_
  refine wi_aload_n rfl rfl ?_
  refine wi_sipush (x := 400) rfl rfl ?_
  refine wi_newarray rfl ⟨by decide, by decide, by decide⟩ (t := 101) rfl (n := 400) rfl (q := 157) rfl ?_
  refine am_norm (sh' := am_shT.take 158) (mr' := am_mr26) rfl rfl ?_
  refine wi_putR rfl ⟨rfl, Nat.le_of_ble_eq_true rfl, Nat.le_of_ble_eq_true rfl⟩ rfl ?_
  refine wi_aload_n rfl rfl ?_
  refine wi_iconst (x := (-1)) rfl rfl ?_
  refine wi_putI rfl rfl ?_
  refine wi_aload_n rfl rfl ?_
  refine wi_iconst (x := (-1)) rfl rfl ?_
  refine wi_putI rfl rfl ?_
  refine wi_aload_n rfl rfl ?_
  refine wi_bipush (x := 8) rfl rfl ?_
  refine wi_newarray rfl ⟨by decide, by decide, by decide⟩ (t := 100) rfl (n := 8) rfl (q := 158) rfl ?_
  refine wi_putR rfl ⟨rfl, Nat.le_of_ble_eq_true rfl, Nat.le_of_ble_eq_true rfl⟩ rfl ?_
  refine wi_aload_n rfl rfl ?_
  refine wi_bipush (x := 48) rfl rfl ?_
  refine wi_newarray rfl ⟨by decide, by decide, by decide⟩ (t := 100) rfl (n := 48) rfl (q := 159) rfl ?_
  refine wi_putR rfl ⟨rfl, Nat.le_of_ble_eq_true rfl, Nat.le_of_ble_eq_true rfl⟩ rfl ?_
  refine wi_aload_n rfl rfl ?_
  refine wi_bipush (x := 48) rfl rfl ?_
  refine wi_newarray rfl ⟨by decide, by decide, by decide⟩ (t := 100) rfl (n := 48) rfl (q := 160) rfl ?_
  refine wi_putR rfl ⟨rfl, Nat.le_of_ble_eq_true rfl, Nat.le_of_ble_eq_true rfl⟩ rfl ?_
  refine wi_aload_n rfl rfl ?_
  refine wi_bipush (x := 48) rfl rfl ?_
  refine wi_newarray rfl ⟨by decide, by decide, by decide⟩ (t := 100) rfl (n := 48) rfl (q := 161) rfl ?_
  refine am_norm (sh' := am_shT.take 162) (mr' := am_mr27) rfl rfl ?_
  refine wi_putR rfl ⟨rfl, Nat.le_of_ble_eq_true rfl, Nat.le_of_ble_eq_true rfl⟩ rfl ?_
  refine wi_aload_n rfl rfl ?_
  refine wi_bipush (x := 8) rfl rfl ?_
  refine wi_newarray rfl ⟨by decide, by decide, by decide⟩ (t := 100) rfl (n := 8) rfl (q := 162) rfl ?_
  refine wi_putR rfl ⟨rfl, Nat.le_of_ble_eq_true rfl, Nat.le_of_ble_eq_true rfl⟩ rfl ?_
  refine wi_aload_n rfl rfl ?_
  refine wi_bipush (x := 48) rfl rfl ?_
  refine wi_newarray rfl ⟨by decide, by decide, by decide⟩ (t := 100) rfl (n := 48) rfl (q := 163) rfl ?_
  refine wi_putR rfl ⟨rfl, Nat.le_of_ble_eq_true rfl, Nat.le_of_ble_eq_true rfl⟩ rfl ?_
  refine wi_aload_n rfl rfl ?_
  refine wi_bipush (x := 48) rfl rfl ?_
  refine wi_newarray rfl ⟨by decide, by decide, by decide⟩ (t := 100) rfl (n := 48) rfl (q := 164) rfl ?_
  refine wi_putR rfl ⟨rfl, Nat.le_of_ble_eq_true rfl, Nat.le_of_ble_eq_true rfl⟩ rfl ?_
  refine wi_aload_n rfl rfl ?_
  refine wi_bipush (x := 48) rfl rfl ?_
  refine wi_newarray rfl ⟨by decide, by decide, by decide⟩ (t := 100) rfl (n := 48) rfl (q := 165) rfl ?_
  refine am_norm (sh' := am_shT.take 166) (mr' := am_mr28) rfl rfl ?_
  refine wi_putR rfl ⟨rfl, Nat.le_of_ble_eq_true rfl, Nat.le_of_ble_eq_true rfl⟩ rfl ?_
  refine wi_aload_n rfl rfl ?_
  refine wi_bipush (x := 8) rfl rfl ?_
  refine wi_newarray rfl ⟨by decide, by decide, by decide⟩ (t := 103) rfl (n := 8) rfl (q := 166) rfl ?_
  refine wi_putR rfl ⟨rfl, Nat.le_of_ble_eq_true rfl, Nat.le_of_ble_eq_true rfl⟩ rfl ?_
  refine wi_ret rfl ?_
  refine wi_astore_n rfl (Nat.le_of_ble_eq_true rfl) rfl rfl ?_
  refine wi_iconst (x := 0) rfl rfl ?_
  refine wi_istore_n rfl (Nat.le_of_ble_eq_true rfl) rfl rfl ?_
  refine am_norm (sh' := am_shT.take 167) (mr' := am_mr29) rfl rfl ?_
  refine am_norm (sh' := am_shT) (mr' := am_mrT) rfl rfl ?_
  exact hk _ _ ⟨⟨rfl, rfl, rfl, rfl, rfl, rfl, rfl, rfl, rfl, rfl, rfl, (fun k => rfl)⟩, ⟨(fun k => rfl), (fun k => rfl), (fun k => rfl), rfl, (fun k => rfl), (fun k => rfl), (fun k => rfl), rfl, rfl, rfl, (fun k => rfl), (fun k => rfl)⟩, ⟨(fun k => rfl), (fun k => rfl), rfl, rfl, rfl, rfl, rfl, rfl, rfl, rfl, rfl, rfl⟩, ⟨rfl, rfl, rfl, rfl, rfl, rfl, rfl, rfl, rfl, rfl, rfl, rfl⟩, ⟨rfl, rfl, rfl, rfl, rfl, rfl, rfl, rfl, rfl, rfl, rfl, rfl⟩, ⟨rfl, rfl, rfl, rfl, rfl, rfl, rfl, rfl, rfl, rfl, rfl, rfl⟩, ⟨rfl, rfl, rfl, rfl, rfl, rfl, rfl, rfl, rfl, rfl, rfl, (fun k => rfl)⟩, ⟨rfl, rfl, rfl, rfl, rfl, rfl, rfl, rfl, rfl, (fun k => rfl), (fun k => rfl), rfl⟩, ⟨(fun k => rfl), (fun k => rfl), (fun k => rfl), (fun k => rfl), (fun k => rfl), (fun k => rfl), (fun k => rfl), (fun k => rfl), (fun k => rfl), (fun k => rfl), (fun k => rfl), (fun k => rfl)⟩, ⟨(fun k => rfl), (fun k => rfl), (fun k => rfl), (fun k => rfl), (fun k => rfl), (fun k => rfl), (fun k => rfl), (fun k => rfl), (fun k => rfl), (fun k => rfl), (fun k => rfl), (fun k => rfl)⟩, ⟨(fun k => rfl), rfl, rfl, rfl, rfl, rfl, (fun k => rfl), (fun k => rfl), (fun k hk => by match k, hk with | 0, _ => rfl | 1, _ => rfl | 2, _ => rfl | 3, _ => rfl | 4, _ => rfl | 5, _ => rfl | 6, _ => rfl | 7, _ => rfl | n + 8, hk => omega), (fun k hk => by match k, hk with | 0, _ => rfl | 1, _ => rfl | 2, _ => rfl | 3, _ => rfl | 4, _ => rfl | 5, _ => rfl | 6, _ => rfl | 7, _ => rfl | n + 8, hk => omega), (fun k hk => by match k, hk with | 0, _ => rfl | 1, _ => rfl | 2, _ => rfl | 3, _ => rfl | 4, _ => rfl | 5, _ => rfl | 6, _ => rfl | 7, _ => rfl | n + 8, hk => omega), (fun k hk => by match k, hk with | 0, _ => rfl | 1, _ => rfl | 2, _ => rfl | 3, _ => rfl | 4, _ => rfl | 5, _ => rfl | 6, _ => rfl | 7, _ => rfl | n + 8, hk => omega)⟩, ⟨(fun k hk => by match k, hk with | 0, _ => rfl | 1, _ => rfl | 2, _ => rfl | 3, _ => rfl | 4, _ => rfl | 5, _ => rfl | 6, _ => rfl | 7, _ => rfl | n + 8, hk => omega), (fun k hk => by match k, hk with | 0, _ => rfl | 1, _ => rfl | 2, _ => rfl | 3, _ => rfl | 4, _ => rfl | 5, _ => rfl | 6, _ => rfl | 7, _ => rfl | n + 8, hk => omega), (fun k hk => by match k, hk with | 0, _ => rfl | 1, _ => rfl | 2, _ => rfl | 3, _ => rfl | 4, _ => rfl | 5, _ => rfl | 6, _ => rfl | 7, _ => rfl | n + 8, hk => omega), (fun k hk => by match k, hk with | 0, _ => rfl | 1, _ => rfl | 2, _ => rfl | 3, _ => rfl | 4, _ => rfl | 5, _ => rfl | 6, _ => rfl | 7, _ => rfl | n + 8, hk => omega), (fun k => rfl), (fun k => rfl), (fun k => rfl), rfl, rfl, (fun k => rfl), (fun k => rfl), (fun k => rfl)⟩, ⟨(fun k => rfl), (fun k => rfl), (fun k => rfl), (fun k => rfl), (fun k => rfl), (fun k => rfl), (fun k => rfl), (fun k => rfl), (fun k => rfl), (fun k => rfl), (fun k => rfl), (fun k => rfl)⟩, ⟨(fun k => rfl), (fun k => rfl), (fun k => rfl), rfl, rfl, rfl, (fun k => rfl), (fun k => rfl), (fun k => rfl), (fun k => rfl), (fun k => rfl), (fun k => rfl)⟩, ⟨(fun k => rfl), (fun k => rfl), (fun k => rfl), (fun k => rfl), (fun k => rfl), (fun k => rfl), (fun k => rfl), (fun k => rfl), (fun k => rfl), (fun k => rfl), (fun k => rfl), (fun k => rfl)⟩, ⟨(fun k => rfl), (fun k => rfl), (fun k => rfl), (fun k => rfl), (fun k => rfl), (fun k => rfl), (fun k => rfl), rfl, rfl, rfl, rfl, rfl⟩, ⟨rfl, rfl, rfl, rfl, rfl, rfl, rfl, rfl, rfl, rfl, rfl, rfl⟩, ⟨rfl, rfl, rfl, rfl, rfl, rfl, rfl, rfl, rfl, rfl, rfl, rfl⟩, ⟨rfl, rfl, rfl, rfl, rfl, rfl, rfl, rfl, rfl, rfl, rfl, rfl⟩, ⟨rfl, rfl, rfl, rfl, rfl, rfl, rfl, rfl, rfl, rfl, rfl, rfl⟩, ⟨rfl, rfl, rfl, rfl, rfl, rfl, rfl, rfl, rfl, rfl, rfl, rfl⟩, ⟨rfl, rfl, rfl, rfl, rfl, rfl, rfl, rfl, rfl, rfl, rfl, rfl⟩, ⟨rfl, rfl, rfl, rfl, rfl, rfl, rfl, rfl, rfl, rfl, rfl, rfl⟩, ⟨rfl, (fun k => rfl), (fun k => rfl), (fun k => rfl), (fun k => rfl), (fun k => rfl), (fun k => rfl), (fun k => rfl), (fun k => rfl), (fun k => rfl), (fun k => rfl), (fun k => rfl)⟩, ⟨(fun k => rfl), (fun k => rfl), (fun k => rfl), (fun k => rfl), (fun k => rfl), (fun k => rfl), (fun k => rfl), (fun k => rfl), (fun k => rfl), (fun k => rfl), (fun k => rfl), (fun k => rfl)⟩, ⟨(fun k => rfl), (fun k => rfl), (fun k => rfl), (fun k => rfl), (fun k => rfl), (fun k => rfl), (fun k => rfl), (fun k => rfl), (fun k => rfl)⟩⟩
end
section
/-! ===== places, numbers, accesses ===== -/
def bkR (b : Bool) : Nat := bif b then 31 else 97
def bkN (b : Bool) : Nat := bif b then 97 else 31
def mrL (b : Bool) : List (List (Option Nat)) := [[some 1, some 2, some 3, some 6, some 9, some 13, some 26, some 28, some 60, some 75, some 96, some (bkR b), none, none, none], [some 126, some 127, some 128, some 129, some 130, some 131, some 132, some 133], [none, none, none, none, none, none, none, none], [some 4, some 5], [], [], [some 7, some 8], [], [], [some 10, some 11, some 12, none], [], [], [], [some 14, some 15, some 16, some 17, some 18, none, none, none], [some 19, some 20, some 21, some 22, some 23, some 24, some 25], [], [], [], [], [none, none, none, none, none, none, none, none], [none, none, none, none, none, none, none, none], [none, none, none, none, none, none, none, none], [none, none, none, none, none, none, none, none], [none, none, none, none, none, none, none, none], [none, none, none, none, none, none, none, none], [none, none, none, none, none, none, none, none], [some 27, none], [], [some 29, some 30, some 26, some (bkN b), none, none, none, none, none, none, none, none, none], [], [], [some 32, some 33, some 42, some 51, none], [], [some 34, some 35, some 36, some 37, some 38, some 39, some 40, some 41], [], [], [], [], [], [], [], [], [some 43, some 44, some 45, some 46, some 47, some 48, some 49, some 50], [], [], [], [], [], [], [], [], [some 52, some 53, some 54, some 55, some 56, some 57, some 58, some 59], [], [], [], [], [], [], [], [], [some 61, some 62, some 63, none, none, none, some 72, some 73, some 74, none, none], [], [], [some 64, some 65, some 66, some 67, some 68, some 69, some 70, some 71], [], [], [], [], [], [], [], [], [], [], [], [some 76, some 85, some 94, some 95, none, none], [some 77, some 78, some 79, some 80, some 81, some 82, some 83, some 84], [], [], [], [], [], [], [], [], [some 86, some 87, some 88, some 89, some 90, some 91, some 92, some 93], [], [], [], [], [], [], [], [], [], [], [none, none], [some 98, some 99, some 108, some 117, none], [], [some 100, some 101, some 102, some 103, some 104, some 105, some 106, some 107], [], [], [], [], [], [], [], [], [some 109, some 110, some 111, some 112, some 113, some 114, some 115, some 116], [], [], [], [], [], [], [], [], [some 118, some 119, some 120, some 121, some 122, some 123, some 124, some 125], [], [], [], [], [], [], [], [], [none, none, none, none, none, none, none, none], [none, none, none, none, none, none, none, none], [none, none, none, none, none, none, none, none], [none, none, none, none, none, none, none, none], [none, none, none, none, none, none, none, none], [none, none, none, none, none, none, none, none], [none, none, none, none, none, none, none, none], [none, none, none, none, none, none, none, none], [none, none, none, none, none, none, some 135, some 136, some 137, some 138, some 139, some 140, some 141, some 142, none, some 143, some 144, some 145, some 146, some 147, none, none, none, none, some 148, some 149, some 150, some 151, some 152, some 153, none, some 154, some 155, some 156, some 157, none, none, none, none, none, none, none, none, none, none, none, none, none, none, some 158, some 159, some 160, some 161, some 162, some 163, some 164, some 165, some 166], [], [], [], [], [], [], [], [], [], [], [], [], [], [], [], [], [], [], [], [], [], [], [], [], [], [], [], [], [], [], [], []]
theorem mrL_false : mrL false = am_mrT := rfl
theorem kd_0 (mr : List (List (Option Nat))) (mi : Nat → Nat → Int32) (ml : Nat → Nat → Int64) : am_kd (am_shT, mr, mi, ml) 0 = 10 := rfl
theorem ln_1 (mr : List (List (Option Nat))) (mi : Nat → Nat → Int32) (ml : Nat → Nat → Int64) : am_ln (am_shT, mr, mi, ml) 1 104 = some 8 := rfl
theorem ra_1 (b : Bool) (q : Nat) (hq : q < 8) : am_rd (mrL b) 1 q = some (126 + q) := (show ∀ b : Bool, ∀ q, q < 8 → am_rd (mrL b) 1 q = some (126 + q) from by decide) b q hq
theorem kr_1 {q : Nat} (hq : q < 8) (mr : List (List (Option Nat))) (mi : Nat → Nat → Int32) (ml : Nat → Nat → Int64) : am_kd (am_shT, mr, mi, ml) (126 + q) = 8 := (show ∀ q, q < 8 → (am_shT[126 + q]?.map Prod.fst).getD 1000 = 8 from by decide) q hq
theorem kd_2 (mr : List (List (Option Nat))) (mi : Nat → Nat → Int32) (ml : Nat → Nat → Int64) : am_kd (am_shT, mr, mi, ml) 2 = 8 := rfl
theorem kd_3 (mr : List (List (Option Nat))) (mi : Nat → Nat → Int32) (ml : Nat → Nat → Int64) : am_kd (am_shT, mr, mi, ml) 3 = 9 := rfl
theorem ln_4 (mr : List (List (Option Nat))) (mi : Nat → Nat → Int32) (ml : Nat → Nat → Int64) : am_ln (am_shT, mr, mi, ml) 4 100 = some 1000 := rfl
theorem ln_5 (mr : List (List (Option Nat))) (mi : Nat → Nat → Int32) (ml : Nat → Nat → Int64) : am_ln (am_shT, mr, mi, ml) 5 100 = some 1000 := rfl
theorem kd_6 (mr : List (List (Option Nat))) (mi : Nat → Nat → Int32) (ml : Nat → Nat → Int64) : am_kd (am_shT, mr, mi, ml) 6 = 9 := rfl
theorem ln_7 (mr : List (List (Option Nat))) (mi : Nat → Nat → Int32) (ml : Nat → Nat → Int64) : am_ln (am_shT, mr, mi, ml) 7 100 = some 1000 := rfl
theorem ln_8 (mr : List (List (Option Nat))) (mi : Nat → Nat → Int32) (ml : Nat → Nat → Int64) : am_ln (am_shT, mr, mi, ml) 8 100 = some 1000 := rfl
theorem kd_9 (mr : List (List (Option Nat))) (mi : Nat → Nat → Int32) (ml : Nat → Nat → Int64) : am_kd (am_shT, mr, mi, ml) 9 = 2 := rfl
theorem ln_10 (mr : List (List (Option Nat))) (mi : Nat → Nat → Int32) (ml : Nat → Nat → Int64) : am_ln (am_shT, mr, mi, ml) 10 100 = some 200 := rfl
theorem ln_11 (mr : List (List (Option Nat))) (mi : Nat → Nat → Int32) (ml : Nat → Nat → Int64) : am_ln (am_shT, mr, mi, ml) 11 100 = some 200 := rfl
theorem ln_12 (mr : List (List (Option Nat))) (mi : Nat → Nat → Int32) (ml : Nat → Nat → Int64) : am_ln (am_shT, mr, mi, ml) 12 100 = some 200 := rfl
theorem kd_13 (mr : List (List (Option Nat))) (mi : Nat → Nat → Int32) (ml : Nat → Nat → Int64) : am_kd (am_shT, mr, mi, ml) 13 = 3 := rfl
theorem ln_14 (mr : List (List (Option Nat))) (mi : Nat → Nat → Int32) (ml : Nat → Nat → Int64) : am_ln (am_shT, mr, mi, ml) 14 104 = some 7 := rfl
theorem ra_14 (b : Bool) (q : Nat) (hq : q < 7) : am_rd (mrL b) 14 q = some (19 + q) := (show ∀ b : Bool, ∀ q, q < 7 → am_rd (mrL b) 14 q = some (19 + q) from by decide) b q hq
theorem kr_14 {q : Nat} (hq : q < 7) (mr : List (List (Option Nat))) (mi : Nat → Nat → Int32) (ml : Nat → Nat → Int64) : am_kd (am_shT, mr, mi, ml) (19 + q) = 8 := (show ∀ q, q < 7 → (am_shT[19 + q]?.map Prod.fst).getD 1000 = 8 from by decide) q hq
theorem ln_15 (mr : List (List (Option Nat))) (mi : Nat → Nat → Int32) (ml : Nat → Nat → Int64) : am_ln (am_shT, mr, mi, ml) 15 100 = some 6 := rfl
theorem ln_16 (mr : List (List (Option Nat))) (mi : Nat → Nat → Int32) (ml : Nat → Nat → Int64) : am_ln (am_shT, mr, mi, ml) 16 100 = some 6 := rfl
theorem ln_17 (mr : List (List (Option Nat))) (mi : Nat → Nat → Int32) (ml : Nat → Nat → Int64) : am_ln (am_shT, mr, mi, ml) 17 100 = some 6 := rfl
theorem ln_18 (mr : List (List (Option Nat))) (mi : Nat → Nat → Int32) (ml : Nat → Nat → Int64) : am_ln (am_shT, mr, mi, ml) 18 100 = some 6 := rfl
theorem kd_19 (mr : List (List (Option Nat))) (mi : Nat → Nat → Int32) (ml : Nat → Nat → Int64) : am_kd (am_shT, mr, mi, ml) 19 = 8 := rfl
theorem kd_20 (mr : List (List (Option Nat))) (mi : Nat → Nat → Int32) (ml : Nat → Nat → Int64) : am_kd (am_shT, mr, mi, ml) 20 = 8 := rfl
theorem kd_21 (mr : List (List (Option Nat))) (mi : Nat → Nat → Int32) (ml : Nat → Nat → Int64) : am_kd (am_shT, mr, mi, ml) 21 = 8 := rfl
theorem kd_22 (mr : List (List (Option Nat))) (mi : Nat → Nat → Int32) (ml : Nat → Nat → Int64) : am_kd (am_shT, mr, mi, ml) 22 = 8 := rfl
theorem kd_23 (mr : List (List (Option Nat))) (mi : Nat → Nat → Int32) (ml : Nat → Nat → Int64) : am_kd (am_shT, mr, mi, ml) 23 = 8 := rfl
theorem kd_24 (mr : List (List (Option Nat))) (mi : Nat → Nat → Int32) (ml : Nat → Nat → Int64) : am_kd (am_shT, mr, mi, ml) 24 = 8 := rfl
theorem kd_25 (mr : List (List (Option Nat))) (mi : Nat → Nat → Int32) (ml : Nat → Nat → Int64) : am_kd (am_shT, mr, mi, ml) 25 = 8 := rfl
theorem kd_26 (mr : List (List (Option Nat))) (mi : Nat → Nat → Int32) (ml : Nat → Nat → Int64) : am_kd (am_shT, mr, mi, ml) 26 = 7 := rfl
theorem ln_27 (mr : List (List (Option Nat))) (mi : Nat → Nat → Int32) (ml : Nat → Nat → Int64) : am_ln (am_shT, mr, mi, ml) 27 100 = some 400 := rfl
theorem kd_28 (mr : List (List (Option Nat))) (mi : Nat → Nat → Int32) (ml : Nat → Nat → Int64) : am_kd (am_shT, mr, mi, ml) 28 = 5 := rfl
theorem ln_29 (mr : List (List (Option Nat))) (mi : Nat → Nat → Int32) (ml : Nat → Nat → Int64) : am_ln (am_shT, mr, mi, ml) 29 100 = some 8 := rfl
theorem ln_30 (mr : List (List (Option Nat))) (mi : Nat → Nat → Int32) (ml : Nat → Nat → Int64) : am_ln (am_shT, mr, mi, ml) 30 100 = some 8 := rfl
theorem kd_31 (mr : List (List (Option Nat))) (mi : Nat → Nat → Int32) (ml : Nat → Nat → Int64) : am_kd (am_shT, mr, mi, ml) 31 = 4 := rfl
theorem ln_32 (mr : List (List (Option Nat))) (mi : Nat → Nat → Int32) (ml : Nat → Nat → Int64) : am_ln (am_shT, mr, mi, ml) 32 100 = some 8 := rfl
theorem ln_33 (mr : List (List (Option Nat))) (mi : Nat → Nat → Int32) (ml : Nat → Nat → Int64) : am_ln (am_shT, mr, mi, ml) 33 105 = some 8 := rfl
theorem ra_33 (b : Bool) (q : Nat) (hq : q < 8) : am_rd (mrL b) 33 q = some (34 + q) := (show ∀ b : Bool, ∀ q, q < 8 → am_rd (mrL b) 33 q = some (34 + q) from by decide) b q hq
theorem lr_33 {q : Nat} (hq : q < 8) (mr : List (List (Option Nat))) (mi : Nat → Nat → Int32) (ml : Nat → Nat → Int64) : am_ln (am_shT, mr, mi, ml) (34 + q) 100 = some 6 := by
  have h : am_shT[34 + q]? = some (100, 6) := (show ∀ q, q < 8 → am_shT[34 + q]? = some (100, 6) from by decide) q hq
  unfold am_ln
  simp only [h]
  rfl
theorem ln_34 (mr : List (List (Option Nat))) (mi : Nat → Nat → Int32) (ml : Nat → Nat → Int64) : am_ln (am_shT, mr, mi, ml) 34 100 = some 6 := rfl
theorem ln_35 (mr : List (List (Option Nat))) (mi : Nat → Nat → Int32) (ml : Nat → Nat → Int64) : am_ln (am_shT, mr, mi, ml) 35 100 = some 6 := rfl
theorem ln_36 (mr : List (List (Option Nat))) (mi : Nat → Nat → Int32) (ml : Nat → Nat → Int64) : am_ln (am_shT, mr, mi, ml) 36 100 = some 6 := rfl
theorem ln_37 (mr : List (List (Option Nat))) (mi : Nat → Nat → Int32) (ml : Nat → Nat → Int64) : am_ln (am_shT, mr, mi, ml) 37 100 = some 6 := rfl
theorem ln_38 (mr : List (List (Option Nat))) (mi : Nat → Nat → Int32) (ml : Nat → Nat → Int64) : am_ln (am_shT, mr, mi, ml) 38 100 = some 6 := rfl
theorem ln_39 (mr : List (List (Option Nat))) (mi : Nat → Nat → Int32) (ml : Nat → Nat → Int64) : am_ln (am_shT, mr, mi, ml) 39 100 = some 6 := rfl
theorem ln_40 (mr : List (List (Option Nat))) (mi : Nat → Nat → Int32) (ml : Nat → Nat → Int64) : am_ln (am_shT, mr, mi, ml) 40 100 = some 6 := rfl
theorem ln_41 (mr : List (List (Option Nat))) (mi : Nat → Nat → Int32) (ml : Nat → Nat → Int64) : am_ln (am_shT, mr, mi, ml) 41 100 = some 6 := rfl
theorem ln_42 (mr : List (List (Option Nat))) (mi : Nat → Nat → Int32) (ml : Nat → Nat → Int64) : am_ln (am_shT, mr, mi, ml) 42 105 = some 8 := rfl
theorem ra_42 (b : Bool) (q : Nat) (hq : q < 8) : am_rd (mrL b) 42 q = some (43 + q) := (show ∀ b : Bool, ∀ q, q < 8 → am_rd (mrL b) 42 q = some (43 + q) from by decide) b q hq
theorem lr_42 {q : Nat} (hq : q < 8) (mr : List (List (Option Nat))) (mi : Nat → Nat → Int32) (ml : Nat → Nat → Int64) : am_ln (am_shT, mr, mi, ml) (43 + q) 100 = some 6 := by
  have h : am_shT[43 + q]? = some (100, 6) := (show ∀ q, q < 8 → am_shT[43 + q]? = some (100, 6) from by decide) q hq
  unfold am_ln
  simp only [h]
  rfl
theorem ln_43 (mr : List (List (Option Nat))) (mi : Nat → Nat → Int32) (ml : Nat → Nat → Int64) : am_ln (am_shT, mr, mi, ml) 43 100 = some 6 := rfl
theorem ln_44 (mr : List (List (Option Nat))) (mi : Nat → Nat → Int32) (ml : Nat → Nat → Int64) : am_ln (am_shT, mr, mi, ml) 44 100 = some 6 := rfl
theorem ln_45 (mr : List (List (Option Nat))) (mi : Nat → Nat → Int32) (ml : Nat → Nat → Int64) : am_ln (am_shT, mr, mi, ml) 45 100 = some 6 := rfl
theorem ln_46 (mr : List (List (Option Nat))) (mi : Nat → Nat → Int32) (ml : Nat → Nat → Int64) : am_ln (am_shT, mr, mi, ml) 46 100 = some 6 := rfl
theorem ln_47 (mr : List (List (Option Nat))) (mi : Nat → Nat → Int32) (ml : Nat → Nat → Int64) : am_ln (am_shT, mr, mi, ml) 47 100 = some 6 := rfl
theorem ln_48 (mr : List (List (Option Nat))) (mi : Nat → Nat → Int32) (ml : Nat → Nat → Int64) : am_ln (am_shT, mr, mi, ml) 48 100 = some 6 := rfl
theorem ln_49 (mr : List (List (Option Nat))) (mi : Nat → Nat → Int32) (ml : Nat → Nat → Int64) : am_ln (am_shT, mr, mi, ml) 49 100 = some 6 := rfl
theorem ln_50 (mr : List (List (Option Nat))) (mi : Nat → Nat → Int32) (ml : Nat → Nat → Int64) : am_ln (am_shT, mr, mi, ml) 50 100 = some 6 := rfl
theorem ln_51 (mr : List (List (Option Nat))) (mi : Nat → Nat → Int32) (ml : Nat → Nat → Int64) : am_ln (am_shT, mr, mi, ml) 51 105 = some 8 := rfl
theorem ra_51 (b : Bool) (q : Nat) (hq : q < 8) : am_rd (mrL b) 51 q = some (52 + q) := (show ∀ b : Bool, ∀ q, q < 8 → am_rd (mrL b) 51 q = some (52 + q) from by decide) b q hq
theorem lr_51 {q : Nat} (hq : q < 8) (mr : List (List (Option Nat))) (mi : Nat → Nat → Int32) (ml : Nat → Nat → Int64) : am_ln (am_shT, mr, mi, ml) (52 + q) 100 = some 6 := by
  have h : am_shT[52 + q]? = some (100, 6) := (show ∀ q, q < 8 → am_shT[52 + q]? = some (100, 6) from by decide) q hq
  unfold am_ln
  simp only [h]
  rfl
theorem ln_52 (mr : List (List (Option Nat))) (mi : Nat → Nat → Int32) (ml : Nat → Nat → Int64) : am_ln (am_shT, mr, mi, ml) 52 100 = some 6 := rfl
theorem ln_53 (mr : List (List (Option Nat))) (mi : Nat → Nat → Int32) (ml : Nat → Nat → Int64) : am_ln (am_shT, mr, mi, ml) 53 100 = some 6 := rfl
theorem ln_54 (mr : List (List (Option Nat))) (mi : Nat → Nat → Int32) (ml : Nat → Nat → Int64) : am_ln (am_shT, mr, mi, ml) 54 100 = some 6 := rfl
theorem ln_55 (mr : List (List (Option Nat))) (mi : Nat → Nat → Int32) (ml : Nat → Nat → Int64) : am_ln (am_shT, mr, mi, ml) 55 100 = some 6 := rfl
theorem ln_56 (mr : List (List (Option Nat))) (mi : Nat → Nat → Int32) (ml : Nat → Nat → Int64) : am_ln (am_shT, mr, mi, ml) 56 100 = some 6 := rfl
theorem ln_57 (mr : List (List (Option Nat))) (mi : Nat → Nat → Int32) (ml : Nat → Nat → Int64) : am_ln (am_shT, mr, mi, ml) 57 100 = some 6 := rfl
theorem ln_58 (mr : List (List (Option Nat))) (mi : Nat → Nat → Int32) (ml : Nat → Nat → Int64) : am_ln (am_shT, mr, mi, ml) 58 100 = some 6 := rfl
theorem ln_59 (mr : List (List (Option Nat))) (mi : Nat → Nat → Int32) (ml : Nat → Nat → Int64) : am_ln (am_shT, mr, mi, ml) 59 100 = some 6 := rfl
theorem kd_60 (mr : List (List (Option Nat))) (mi : Nat → Nat → Int32) (ml : Nat → Nat → Int64) : am_kd (am_shT, mr, mi, ml) 60 = 6 := rfl
theorem ln_61 (mr : List (List (Option Nat))) (mi : Nat → Nat → Int32) (ml : Nat → Nat → Int64) : am_ln (am_shT, mr, mi, ml) 61 100 = some 8 := rfl
theorem ln_62 (mr : List (List (Option Nat))) (mi : Nat → Nat → Int32) (ml : Nat → Nat → Int64) : am_ln (am_shT, mr, mi, ml) 62 100 = some 8 := rfl
theorem ln_63 (mr : List (List (Option Nat))) (mi : Nat → Nat → Int32) (ml : Nat → Nat → Int64) : am_ln (am_shT, mr, mi, ml) 63 105 = some 8 := rfl
theorem ra_63 (b : Bool) (q : Nat) (hq : q < 8) : am_rd (mrL b) 63 q = some (64 + q) := (show ∀ b : Bool, ∀ q, q < 8 → am_rd (mrL b) 63 q = some (64 + q) from by decide) b q hq
theorem lr_63 {q : Nat} (hq : q < 8) (mr : List (List (Option Nat))) (mi : Nat → Nat → Int32) (ml : Nat → Nat → Int64) : am_ln (am_shT, mr, mi, ml) (64 + q) 100 = some 8 := by
  have h : am_shT[64 + q]? = some (100, 8) := (show ∀ q, q < 8 → am_shT[64 + q]? = some (100, 8) from by decide) q hq
  unfold am_ln
  simp only [h]
  rfl
theorem ln_64 (mr : List (List (Option Nat))) (mi : Nat → Nat → Int32) (ml : Nat → Nat → Int64) : am_ln (am_shT, mr, mi, ml) 64 100 = some 8 := rfl
theorem ln_65 (mr : List (List (Option Nat))) (mi : Nat → Nat → Int32) (ml : Nat → Nat → Int64) : am_ln (am_shT, mr, mi, ml) 65 100 = some 8 := rfl
theorem ln_66 (mr : List (List (Option Nat))) (mi : Nat → Nat → Int32) (ml : Nat → Nat → Int64) : am_ln (am_shT, mr, mi, ml) 66 100 = some 8 := rfl
theorem ln_67 (mr : List (List (Option Nat))) (mi : Nat → Nat → Int32) (ml : Nat → Nat → Int64) : am_ln (am_shT, mr, mi, ml) 67 100 = some 8 := rfl
theorem ln_68 (mr : List (List (Option Nat))) (mi : Nat → Nat → Int32) (ml : Nat → Nat → Int64) : am_ln (am_shT, mr, mi, ml) 68 100 = some 8 := rfl
theorem ln_69 (mr : List (List (Option Nat))) (mi : Nat → Nat → Int32) (ml : Nat → Nat → Int64) : am_ln (am_shT, mr, mi, ml) 69 100 = some 8 := rfl
theorem ln_70 (mr : List (List (Option Nat))) (mi : Nat → Nat → Int32) (ml : Nat → Nat → Int64) : am_ln (am_shT, mr, mi, ml) 70 100 = some 8 := rfl
theorem ln_71 (mr : List (List (Option Nat))) (mi : Nat → Nat → Int32) (ml : Nat → Nat → Int64) : am_ln (am_shT, mr, mi, ml) 71 100 = some 8 := rfl
theorem ln_72 (mr : List (List (Option Nat))) (mi : Nat → Nat → Int32) (ml : Nat → Nat → Int64) : am_ln (am_shT, mr, mi, ml) 72 102 = some 256 := rfl
theorem lz_72 (mr : List (List (Option Nat))) (mi : Nat → Nat → Int32) (ml : Nat → Nat → Int64) : am_ln (am_shT, mr, mi, ml) 72 101 = none := rfl
theorem ln_73 (mr : List (List (Option Nat))) (mi : Nat → Nat → Int32) (ml : Nat → Nat → Int64) : am_ln (am_shT, mr, mi, ml) 73 103 = some 256 := rfl
theorem ln_74 (mr : List (List (Option Nat))) (mi : Nat → Nat → Int32) (ml : Nat → Nat → Int64) : am_ln (am_shT, mr, mi, ml) 74 103 = some 256 := rfl
theorem kd_75 (mr : List (List (Option Nat))) (mi : Nat → Nat → Int32) (ml : Nat → Nat → Int64) : am_kd (am_shT, mr, mi, ml) 75 = 1 := rfl
theorem ln_76 (mr : List (List (Option Nat))) (mi : Nat → Nat → Int32) (ml : Nat → Nat → Int64) : am_ln (am_shT, mr, mi, ml) 76 105 = some 8 := rfl
theorem ra_76 (b : Bool) (q : Nat) (hq : q < 8) : am_rd (mrL b) 76 q = some (77 + q) := (show ∀ b : Bool, ∀ q, q < 8 → am_rd (mrL b) 76 q = some (77 + q) from by decide) b q hq
theorem lr_76 {q : Nat} (hq : q < 8) (mr : List (List (Option Nat))) (mi : Nat → Nat → Int32) (ml : Nat → Nat → Int64) : am_ln (am_shT, mr, mi, ml) (77 + q) 100 = some 3 := by
  have h : am_shT[77 + q]? = some (100, 3) := (show ∀ q, q < 8 → am_shT[77 + q]? = some (100, 3) from by decide) q hq
  unfold am_ln
  simp only [h]
  rfl
theorem ln_77 (mr : List (List (Option Nat))) (mi : Nat → Nat → Int32) (ml : Nat → Nat → Int64) : am_ln (am_shT, mr, mi, ml) 77 100 = some 3 := rfl
theorem ln_78 (mr : List (List (Option Nat))) (mi : Nat → Nat → Int32) (ml : Nat → Nat → Int64) : am_ln (am_shT, mr, mi, ml) 78 100 = some 3 := rfl
theorem ln_79 (mr : List (List (Option Nat))) (mi : Nat → Nat → Int32) (ml : Nat → Nat → Int64) : am_ln (am_shT, mr, mi, ml) 79 100 = some 3 := rfl
theorem ln_80 (mr : List (List (Option Nat))) (mi : Nat → Nat → Int32) (ml : Nat → Nat → Int64) : am_ln (am_shT, mr, mi, ml) 80 100 = some 3 := rfl
theorem ln_81 (mr : List (List (Option Nat))) (mi : Nat → Nat → Int32) (ml : Nat → Nat → Int64) : am_ln (am_shT, mr, mi, ml) 81 100 = some 3 := rfl
theorem ln_82 (mr : List (List (Option Nat))) (mi : Nat → Nat → Int32) (ml : Nat → Nat → Int64) : am_ln (am_shT, mr, mi, ml) 82 100 = some 3 := rfl
theorem ln_83 (mr : List (List (Option Nat))) (mi : Nat → Nat → Int32) (ml : Nat → Nat → Int64) : am_ln (am_shT, mr, mi, ml) 83 100 = some 3 := rfl
theorem ln_84 (mr : List (List (Option Nat))) (mi : Nat → Nat → Int32) (ml : Nat → Nat → Int64) : am_ln (am_shT, mr, mi, ml) 84 100 = some 3 := rfl
theorem ln_85 (mr : List (List (Option Nat))) (mi : Nat → Nat → Int32) (ml : Nat → Nat → Int64) : am_ln (am_shT, mr, mi, ml) 85 105 = some 8 := rfl
theorem ra_85 (b : Bool) (q : Nat) (hq : q < 8) : am_rd (mrL b) 85 q = some (86 + q) := (show ∀ b : Bool, ∀ q, q < 8 → am_rd (mrL b) 85 q = some (86 + q) from by decide) b q hq
theorem lr_85 {q : Nat} (hq : q < 8) (mr : List (List (Option Nat))) (mi : Nat → Nat → Int32) (ml : Nat → Nat → Int64) : am_ln (am_shT, mr, mi, ml) (86 + q) 100 = some 3 := by
  have h : am_shT[86 + q]? = some (100, 3) := (show ∀ q, q < 8 → am_shT[86 + q]? = some (100, 3) from by decide) q hq
  unfold am_ln
  simp only [h]
  rfl
theorem ln_86 (mr : List (List (Option Nat))) (mi : Nat → Nat → Int32) (ml : Nat → Nat → Int64) : am_ln (am_shT, mr, mi, ml) 86 100 = some 3 := rfl
theorem ln_87 (mr : List (List (Option Nat))) (mi : Nat → Nat → Int32) (ml : Nat → Nat → Int64) : am_ln (am_shT, mr, mi, ml) 87 100 = some 3 := rfl
theorem ln_88 (mr : List (List (Option Nat))) (mi : Nat → Nat → Int32) (ml : Nat → Nat → Int64) : am_ln (am_shT, mr, mi, ml) 88 100 = some 3 := rfl
theorem ln_89 (mr : List (List (Option Nat))) (mi : Nat → Nat → Int32) (ml : Nat → Nat → Int64) : am_ln (am_shT, mr, mi, ml) 89 100 = some 3 := rfl
theorem ln_90 (mr : List (List (Option Nat))) (mi : Nat → Nat → Int32) (ml : Nat → Nat → Int64) : am_ln (am_shT, mr, mi, ml) 90 100 = some 3 := rfl
theorem ln_91 (mr : List (List (Option Nat))) (mi : Nat → Nat → Int32) (ml : Nat → Nat → Int64) : am_ln (am_shT, mr, mi, ml) 91 100 = some 3 := rfl
theorem ln_92 (mr : List (List (Option Nat))) (mi : Nat → Nat → Int32) (ml : Nat → Nat → Int64) : am_ln (am_shT, mr, mi, ml) 92 100 = some 3 := rfl
theorem ln_93 (mr : List (List (Option Nat))) (mi : Nat → Nat → Int32) (ml : Nat → Nat → Int64) : am_ln (am_shT, mr, mi, ml) 93 100 = some 3 := rfl
theorem ln_94 (mr : List (List (Option Nat))) (mi : Nat → Nat → Int32) (ml : Nat → Nat → Int64) : am_ln (am_shT, mr, mi, ml) 94 103 = some 3 := rfl
theorem ln_95 (mr : List (List (Option Nat))) (mi : Nat → Nat → Int32) (ml : Nat → Nat → Int64) : am_ln (am_shT, mr, mi, ml) 95 103 = some 3 := rfl
theorem kd_96 (mr : List (List (Option Nat))) (mi : Nat → Nat → Int32) (ml : Nat → Nat → Int64) : am_kd (am_shT, mr, mi, ml) 96 = 0 := rfl
theorem kd_97 (mr : List (List (Option Nat))) (mi : Nat → Nat → Int32) (ml : Nat → Nat → Int64) : am_kd (am_shT, mr, mi, ml) 97 = 4 := rfl
theorem ln_98 (mr : List (List (Option Nat))) (mi : Nat → Nat → Int32) (ml : Nat → Nat → Int64) : am_ln (am_shT, mr, mi, ml) 98 100 = some 8 := rfl
theorem ln_99 (mr : List (List (Option Nat))) (mi : Nat → Nat → Int32) (ml : Nat → Nat → Int64) : am_ln (am_shT, mr, mi, ml) 99 105 = some 8 := rfl
theorem ra_99 (b : Bool) (q : Nat) (hq : q < 8) : am_rd (mrL b) 99 q = some (100 + q) := (show ∀ b : Bool, ∀ q, q < 8 → am_rd (mrL b) 99 q = some (100 + q) from by decide) b q hq
theorem lr_99 {q : Nat} (hq : q < 8) (mr : List (List (Option Nat))) (mi : Nat → Nat → Int32) (ml : Nat → Nat → Int64) : am_ln (am_shT, mr, mi, ml) (100 + q) 100 = some 6 := by
  have h : am_shT[100 + q]? = some (100, 6) := (show ∀ q, q < 8 → am_shT[100 + q]? = some (100, 6) from by decide) q hq
  unfold am_ln
  simp only [h]
  rfl
theorem ln_100 (mr : List (List (Option Nat))) (mi : Nat → Nat → Int32) (ml : Nat → Nat → Int64) : am_ln (am_shT, mr, mi, ml) 100 100 = some 6 := rfl
theorem ln_101 (mr : List (List (Option Nat))) (mi : Nat → Nat → Int32) (ml : Nat → Nat → Int64) : am_ln (am_shT, mr, mi, ml) 101 100 = some 6 := rfl
theorem ln_102 (mr : List (List (Option Nat))) (mi : Nat → Nat → Int32) (ml : Nat → Nat → Int64) : am_ln (am_shT, mr, mi, ml) 102 100 = some 6 := rfl
theorem ln_103 (mr : List (List (Option Nat))) (mi : Nat → Nat → Int32) (ml : Nat → Nat → Int64) : am_ln (am_shT, mr, mi, ml) 103 100 = some 6 := rfl
theorem ln_104 (mr : List (List (Option Nat))) (mi : Nat → Nat → Int32) (ml : Nat → Nat → Int64) : am_ln (am_shT, mr, mi, ml) 104 100 = some 6 := rfl
theorem ln_105 (mr : List (List (Option Nat))) (mi : Nat → Nat → Int32) (ml : Nat → Nat → Int64) : am_ln (am_shT, mr, mi, ml) 105 100 = some 6 := rfl
theorem ln_106 (mr : List (List (Option Nat))) (mi : Nat → Nat → Int32) (ml : Nat → Nat → Int64) : am_ln (am_shT, mr, mi, ml) 106 100 = some 6 := rfl
theorem ln_107 (mr : List (List (Option Nat))) (mi : Nat → Nat → Int32) (ml : Nat → Nat → Int64) : am_ln (am_shT, mr, mi, ml) 107 100 = some 6 := rfl
theorem ln_108 (mr : List (List (Option Nat))) (mi : Nat → Nat → Int32) (ml : Nat → Nat → Int64) : am_ln (am_shT, mr, mi, ml) 108 105 = some 8 := rfl
theorem ra_108 (b : Bool) (q : Nat) (hq : q < 8) : am_rd (mrL b) 108 q = some (109 + q) := (show ∀ b : Bool, ∀ q, q < 8 → am_rd (mrL b) 108 q = some (109 + q) from by decide) b q hq
theorem lr_108 {q : Nat} (hq : q < 8) (mr : List (List (Option Nat))) (mi : Nat → Nat → Int32) (ml : Nat → Nat → Int64) : am_ln (am_shT, mr, mi, ml) (109 + q) 100 = some 6 := by
  have h : am_shT[109 + q]? = some (100, 6) := (show ∀ q, q < 8 → am_shT[109 + q]? = some (100, 6) from by decide) q hq
  unfold am_ln
  simp only [h]
  rfl
theorem ln_109 (mr : List (List (Option Nat))) (mi : Nat → Nat → Int32) (ml : Nat → Nat → Int64) : am_ln (am_shT, mr, mi, ml) 109 100 = some 6 := rfl
theorem ln_110 (mr : List (List (Option Nat))) (mi : Nat → Nat → Int32) (ml : Nat → Nat → Int64) : am_ln (am_shT, mr, mi, ml) 110 100 = some 6 := rfl
theorem ln_111 (mr : List (List (Option Nat))) (mi : Nat → Nat → Int32) (ml : Nat → Nat → Int64) : am_ln (am_shT, mr, mi, ml) 111 100 = some 6 := rfl
theorem ln_112 (mr : List (List (Option Nat))) (mi : Nat → Nat → Int32) (ml : Nat → Nat → Int64) : am_ln (am_shT, mr, mi, ml) 112 100 = some 6 := rfl
theorem ln_113 (mr : List (List (Option Nat))) (mi : Nat → Nat → Int32) (ml : Nat → Nat → Int64) : am_ln (am_shT, mr, mi, ml) 113 100 = some 6 := rfl
theorem ln_114 (mr : List (List (Option Nat))) (mi : Nat → Nat → Int32) (ml : Nat → Nat → Int64) : am_ln (am_shT, mr, mi, ml) 114 100 = some 6 := rfl
theorem ln_115 (mr : List (List (Option Nat))) (mi : Nat → Nat → Int32) (ml : Nat → Nat → Int64) : am_ln (am_shT, mr, mi, ml) 115 100 = some 6 := rfl
theorem ln_116 (mr : List (List (Option Nat))) (mi : Nat → Nat → Int32) (ml : Nat → Nat → Int64) : am_ln (am_shT, mr, mi, ml) 116 100 = some 6 := rfl
theorem ln_117 (mr : List (List (Option Nat))) (mi : Nat → Nat → Int32) (ml : Nat → Nat → Int64) : am_ln (am_shT, mr, mi, ml) 117 105 = some 8 := rfl
theorem ra_117 (b : Bool) (q : Nat) (hq : q < 8) : am_rd (mrL b) 117 q = some (118 + q) := (show ∀ b : Bool, ∀ q, q < 8 → am_rd (mrL b) 117 q = some (118 + q) from by decide) b q hq
theorem lr_117 {q : Nat} (hq : q < 8) (mr : List (List (Option Nat))) (mi : Nat → Nat → Int32) (ml : Nat → Nat → Int64) : am_ln (am_shT, mr, mi, ml) (118 + q) 100 = some 6 := by
  have h : am_shT[118 + q]? = some (100, 6) := (show ∀ q, q < 8 → am_shT[118 + q]? = some (100, 6) from by decide) q hq
  unfold am_ln
  simp only [h]
  rfl
theorem ln_118 (mr : List (List (Option Nat))) (mi : Nat → Nat → Int32) (ml : Nat → Nat → Int64) : am_ln (am_shT, mr, mi, ml) 118 100 = some 6 := rfl
theorem ln_119 (mr : List (List (Option Nat))) (mi : Nat → Nat → Int32) (ml : Nat → Nat → Int64) : am_ln (am_shT, mr, mi, ml) 119 100 = some 6 := rfl
theorem ln_120 (mr : List (List (Option Nat))) (mi : Nat → Nat → Int32) (ml : Nat → Nat → Int64) : am_ln (am_shT, mr, mi, ml) 120 100 = some 6 := rfl
theorem ln_121 (mr : List (List (Option Nat))) (mi : Nat → Nat → Int32) (ml : Nat → Nat → Int64) : am_ln (am_shT, mr, mi, ml) 121 100 = some 6 := rfl
theorem ln_122 (mr : List (List (Option Nat))) (mi : Nat → Nat → Int32) (ml : Nat → Nat → Int64) : am_ln (am_shT, mr, mi, ml) 122 100 = some 6 := rfl
theorem ln_123 (mr : List (List (Option Nat))) (mi : Nat → Nat → Int32) (ml : Nat → Nat → Int64) : am_ln (am_shT, mr, mi, ml) 123 100 = some 6 := rfl
theorem ln_124 (mr : List (List (Option Nat))) (mi : Nat → Nat → Int32) (ml : Nat → Nat → Int64) : am_ln (am_shT, mr, mi, ml) 124 100 = some 6 := rfl
theorem ln_125 (mr : List (List (Option Nat))) (mi : Nat → Nat → Int32) (ml : Nat → Nat → Int64) : am_ln (am_shT, mr, mi, ml) 125 100 = some 6 := rfl
theorem kd_126 (mr : List (List (Option Nat))) (mi : Nat → Nat → Int32) (ml : Nat → Nat → Int64) : am_kd (am_shT, mr, mi, ml) 126 = 8 := rfl
theorem kd_127 (mr : List (List (Option Nat))) (mi : Nat → Nat → Int32) (ml : Nat → Nat → Int64) : am_kd (am_shT, mr, mi, ml) 127 = 8 := rfl
theorem kd_128 (mr : List (List (Option Nat))) (mi : Nat → Nat → Int32) (ml : Nat → Nat → Int64) : am_kd (am_shT, mr, mi, ml) 128 = 8 := rfl
theorem kd_129 (mr : List (List (Option Nat))) (mi : Nat → Nat → Int32) (ml : Nat → Nat → Int64) : am_kd (am_shT, mr, mi, ml) 129 = 8 := rfl
theorem kd_130 (mr : List (List (Option Nat))) (mi : Nat → Nat → Int32) (ml : Nat → Nat → Int64) : am_kd (am_shT, mr, mi, ml) 130 = 8 := rfl
theorem kd_131 (mr : List (List (Option Nat))) (mi : Nat → Nat → Int32) (ml : Nat → Nat → Int64) : am_kd (am_shT, mr, mi, ml) 131 = 8 := rfl
theorem kd_132 (mr : List (List (Option Nat))) (mi : Nat → Nat → Int32) (ml : Nat → Nat → Int64) : am_kd (am_shT, mr, mi, ml) 132 = 8 := rfl
theorem kd_133 (mr : List (List (Option Nat))) (mi : Nat → Nat → Int32) (ml : Nat → Nat → Int64) : am_kd (am_shT, mr, mi, ml) 133 = 8 := rfl
theorem kd_134 (mr : List (List (Option Nat))) (mi : Nat → Nat → Int32) (ml : Nat → Nat → Int64) : am_kd (am_shT, mr, mi, ml) 134 = 11 := rfl
theorem ln_135 (mr : List (List (Option Nat))) (mi : Nat → Nat → Int32) (ml : Nat → Nat → Int64) : am_ln (am_shT, mr, mi, ml) 135 100 = some 48 := rfl
theorem ln_136 (mr : List (List (Option Nat))) (mi : Nat → Nat → Int32) (ml : Nat → Nat → Int64) : am_ln (am_shT, mr, mi, ml) 136 100 = some 8 := rfl
theorem ln_137 (mr : List (List (Option Nat))) (mi : Nat → Nat → Int32) (ml : Nat → Nat → Int64) : am_ln (am_shT, mr, mi, ml) 137 100 = some 8 := rfl
theorem ln_138 (mr : List (List (Option Nat))) (mi : Nat → Nat → Int32) (ml : Nat → Nat → Int64) : am_ln (am_shT, mr, mi, ml) 138 100 = some 1000 := rfl
theorem ln_139 (mr : List (List (Option Nat))) (mi : Nat → Nat → Int32) (ml : Nat → Nat → Int64) : am_ln (am_shT, mr, mi, ml) 139 100 = some 1000 := rfl
theorem ln_140 (mr : List (List (Option Nat))) (mi : Nat → Nat → Int32) (ml : Nat → Nat → Int64) : am_ln (am_shT, mr, mi, ml) 140 100 = some 1000 := rfl
theorem ln_141 (mr : List (List (Option Nat))) (mi : Nat → Nat → Int32) (ml : Nat → Nat → Int64) : am_ln (am_shT, mr, mi, ml) 141 100 = some 1000 := rfl
theorem ln_142 (mr : List (List (Option Nat))) (mi : Nat → Nat → Int32) (ml : Nat → Nat → Int64) : am_ln (am_shT, mr, mi, ml) 142 100 = some 6 := rfl
theorem ln_143 (mr : List (List (Option Nat))) (mi : Nat → Nat → Int32) (ml : Nat → Nat → Int64) : am_ln (am_shT, mr, mi, ml) 143 100 = some 200 := rfl
theorem ln_144 (mr : List (List (Option Nat))) (mi : Nat → Nat → Int32) (ml : Nat → Nat → Int64) : am_ln (am_shT, mr, mi, ml) 144 100 = some 200 := rfl
theorem ln_145 (mr : List (List (Option Nat))) (mi : Nat → Nat → Int32) (ml : Nat → Nat → Int64) : am_ln (am_shT, mr, mi, ml) 145 100 = some 200 := rfl
theorem ln_146 (mr : List (List (Option Nat))) (mi : Nat → Nat → Int32) (ml : Nat → Nat → Int64) : am_ln (am_shT, mr, mi, ml) 146 100 = some 6 := rfl
theorem ln_147 (mr : List (List (Option Nat))) (mi : Nat → Nat → Int32) (ml : Nat → Nat → Int64) : am_ln (am_shT, mr, mi, ml) 147 100 = some 6 := rfl
theorem ln_148 (mr : List (List (Option Nat))) (mi : Nat → Nat → Int32) (ml : Nat → Nat → Int64) : am_ln (am_shT, mr, mi, ml) 148 100 = some 8 := rfl
theorem ln_149 (mr : List (List (Option Nat))) (mi : Nat → Nat → Int32) (ml : Nat → Nat → Int64) : am_ln (am_shT, mr, mi, ml) 149 100 = some 8 := rfl
theorem ln_150 (mr : List (List (Option Nat))) (mi : Nat → Nat → Int32) (ml : Nat → Nat → Int64) : am_ln (am_shT, mr, mi, ml) 150 100 = some 64 := rfl
theorem ln_151 (mr : List (List (Option Nat))) (mi : Nat → Nat → Int32) (ml : Nat → Nat → Int64) : am_ln (am_shT, mr, mi, ml) 151 100 = some 8 := rfl
theorem ln_152 (mr : List (List (Option Nat))) (mi : Nat → Nat → Int32) (ml : Nat → Nat → Int64) : am_ln (am_shT, mr, mi, ml) 152 100 = some 8 := rfl
theorem ln_153 (mr : List (List (Option Nat))) (mi : Nat → Nat → Int32) (ml : Nat → Nat → Int64) : am_ln (am_shT, mr, mi, ml) 153 100 = some 9 := rfl
theorem ln_154 (mr : List (List (Option Nat))) (mi : Nat → Nat → Int32) (ml : Nat → Nat → Int64) : am_ln (am_shT, mr, mi, ml) 154 100 = some 100 := rfl
theorem ln_155 (mr : List (List (Option Nat))) (mi : Nat → Nat → Int32) (ml : Nat → Nat → Int64) : am_ln (am_shT, mr, mi, ml) 155 100 = some 100 := rfl
theorem ln_156 (mr : List (List (Option Nat))) (mi : Nat → Nat → Int32) (ml : Nat → Nat → Int64) : am_ln (am_shT, mr, mi, ml) 156 100 = some 100 := rfl
theorem ln_157 (mr : List (List (Option Nat))) (mi : Nat → Nat → Int32) (ml : Nat → Nat → Int64) : am_ln (am_shT, mr, mi, ml) 157 101 = some 400 := rfl
theorem ln_158 (mr : List (List (Option Nat))) (mi : Nat → Nat → Int32) (ml : Nat → Nat → Int64) : am_ln (am_shT, mr, mi, ml) 158 100 = some 8 := rfl
theorem ln_159 (mr : List (List (Option Nat))) (mi : Nat → Nat → Int32) (ml : Nat → Nat → Int64) : am_ln (am_shT, mr, mi, ml) 159 100 = some 48 := rfl
theorem ln_160 (mr : List (List (Option Nat))) (mi : Nat → Nat → Int32) (ml : Nat → Nat → Int64) : am_ln (am_shT, mr, mi, ml) 160 100 = some 48 := rfl
theorem ln_161 (mr : List (List (Option Nat))) (mi : Nat → Nat → Int32) (ml : Nat → Nat → Int64) : am_ln (am_shT, mr, mi, ml) 161 100 = some 48 := rfl
theorem ln_162 (mr : List (List (Option Nat))) (mi : Nat → Nat → Int32) (ml : Nat → Nat → Int64) : am_ln (am_shT, mr, mi, ml) 162 100 = some 8 := rfl
theorem ln_163 (mr : List (List (Option Nat))) (mi : Nat → Nat → Int32) (ml : Nat → Nat → Int64) : am_ln (am_shT, mr, mi, ml) 163 100 = some 48 := rfl
theorem ln_164 (mr : List (List (Option Nat))) (mi : Nat → Nat → Int32) (ml : Nat → Nat → Int64) : am_ln (am_shT, mr, mi, ml) 164 100 = some 48 := rfl
theorem ln_165 (mr : List (List (Option Nat))) (mi : Nat → Nat → Int32) (ml : Nat → Nat → Int64) : am_ln (am_shT, mr, mi, ml) 165 100 = some 48 := rfl
theorem ln_166 (mr : List (List (Option Nat))) (mi : Nat → Nat → Int32) (ml : Nat → Nat → Int64) : am_ln (am_shT, mr, mi, ml) 166 103 = some 8 := rfl
theorem rd_0_0 (b : Bool) : am_rd (mrL b) 0 0 = some (1) := rfl
theorem rd_0_1 (b : Bool) : am_rd (mrL b) 0 1 = some (2) := rfl
theorem rd_0_2 (b : Bool) : am_rd (mrL b) 0 2 = some (3) := rfl
theorem rd_0_3 (b : Bool) : am_rd (mrL b) 0 3 = some (6) := rfl
theorem rd_0_4 (b : Bool) : am_rd (mrL b) 0 4 = some (9) := rfl
theorem rd_0_5 (b : Bool) : am_rd (mrL b) 0 5 = some (13) := rfl
theorem rd_0_6 (b : Bool) : am_rd (mrL b) 0 6 = some (26) := rfl
theorem rd_0_7 (b : Bool) : am_rd (mrL b) 0 7 = some (28) := rfl
theorem rd_0_8 (b : Bool) : am_rd (mrL b) 0 8 = some (60) := rfl
theorem rd_0_9 (b : Bool) : am_rd (mrL b) 0 9 = some (75) := rfl
theorem rd_0_10 (b : Bool) : am_rd (mrL b) 0 10 = some (96) := rfl
theorem rd_0_11 (b : Bool) : am_rd (mrL b) 0 11 = some (bkR b) := rfl
theorem rd_3_0 (b : Bool) : am_rd (mrL b) 3 0 = some (4) := rfl
theorem rd_3_1 (b : Bool) : am_rd (mrL b) 3 1 = some (5) := rfl
theorem rd_6_0 (b : Bool) : am_rd (mrL b) 6 0 = some (7) := rfl
theorem rd_6_1 (b : Bool) : am_rd (mrL b) 6 1 = some (8) := rfl
theorem rd_9_0 (b : Bool) : am_rd (mrL b) 9 0 = some (10) := rfl
theorem rd_9_1 (b : Bool) : am_rd (mrL b) 9 1 = some (11) := rfl
theorem rd_9_2 (b : Bool) : am_rd (mrL b) 9 2 = some (12) := rfl
theorem rd_13_0 (b : Bool) : am_rd (mrL b) 13 0 = some (14) := rfl
theorem rd_13_1 (b : Bool) : am_rd (mrL b) 13 1 = some (15) := rfl
theorem rd_13_2 (b : Bool) : am_rd (mrL b) 13 2 = some (16) := rfl
theorem rd_13_3 (b : Bool) : am_rd (mrL b) 13 3 = some (17) := rfl
theorem rd_13_4 (b : Bool) : am_rd (mrL b) 13 4 = some (18) := rfl
theorem rd_26_0 (b : Bool) : am_rd (mrL b) 26 0 = some (27) := rfl
theorem rd_28_0 (b : Bool) : am_rd (mrL b) 28 0 = some (29) := rfl
theorem rd_28_1 (b : Bool) : am_rd (mrL b) 28 1 = some (30) := rfl
theorem rd_28_2 (b : Bool) : am_rd (mrL b) 28 2 = some (26) := rfl
theorem rd_28_3 (b : Bool) : am_rd (mrL b) 28 3 = some (bkN b) := rfl
theorem rd_31_0 (b : Bool) : am_rd (mrL b) 31 0 = some (32) := rfl
theorem rd_31_1 (b : Bool) : am_rd (mrL b) 31 1 = some (33) := rfl
theorem rd_31_2 (b : Bool) : am_rd (mrL b) 31 2 = some (42) := rfl
theorem rd_31_3 (b : Bool) : am_rd (mrL b) 31 3 = some (51) := rfl
theorem rd_60_0 (b : Bool) : am_rd (mrL b) 60 0 = some (61) := rfl
theorem rd_60_1 (b : Bool) : am_rd (mrL b) 60 1 = some (62) := rfl
theorem rd_60_2 (b : Bool) : am_rd (mrL b) 60 2 = some (63) := rfl
theorem rd_60_6 (b : Bool) : am_rd (mrL b) 60 6 = some (72) := rfl
theorem rd_60_7 (b : Bool) : am_rd (mrL b) 60 7 = some (73) := rfl
theorem rd_60_8 (b : Bool) : am_rd (mrL b) 60 8 = some (74) := rfl
theorem rd_75_0 (b : Bool) : am_rd (mrL b) 75 0 = some (76) := rfl
theorem rd_75_1 (b : Bool) : am_rd (mrL b) 75 1 = some (85) := rfl
theorem rd_75_2 (b : Bool) : am_rd (mrL b) 75 2 = some (94) := rfl
theorem rd_75_3 (b : Bool) : am_rd (mrL b) 75 3 = some (95) := rfl
theorem rd_97_0 (b : Bool) : am_rd (mrL b) 97 0 = some (98) := rfl
theorem rd_97_1 (b : Bool) : am_rd (mrL b) 97 1 = some (99) := rfl
theorem rd_97_2 (b : Bool) : am_rd (mrL b) 97 2 = some (108) := rfl
theorem rd_97_3 (b : Bool) : am_rd (mrL b) 97 3 = some (117) := rfl
theorem rd_134_6 (b : Bool) : am_rd (mrL b) 134 6 = some (135) := rfl
theorem rd_134_7 (b : Bool) : am_rd (mrL b) 134 7 = some (136) := rfl
theorem rd_134_8 (b : Bool) : am_rd (mrL b) 134 8 = some (137) := rfl
theorem rd_134_9 (b : Bool) : am_rd (mrL b) 134 9 = some (138) := rfl
theorem rd_134_10 (b : Bool) : am_rd (mrL b) 134 10 = some (139) := rfl
theorem rd_134_11 (b : Bool) : am_rd (mrL b) 134 11 = some (140) := rfl
theorem rd_134_12 (b : Bool) : am_rd (mrL b) 134 12 = some (141) := rfl
theorem rd_134_13 (b : Bool) : am_rd (mrL b) 134 13 = some (142) := rfl
theorem rd_134_15 (b : Bool) : am_rd (mrL b) 134 15 = some (143) := rfl
theorem rd_134_16 (b : Bool) : am_rd (mrL b) 134 16 = some (144) := rfl
theorem rd_134_17 (b : Bool) : am_rd (mrL b) 134 17 = some (145) := rfl
theorem rd_134_18 (b : Bool) : am_rd (mrL b) 134 18 = some (146) := rfl
theorem rd_134_19 (b : Bool) : am_rd (mrL b) 134 19 = some (147) := rfl
theorem rd_134_24 (b : Bool) : am_rd (mrL b) 134 24 = some (148) := rfl
theorem rd_134_25 (b : Bool) : am_rd (mrL b) 134 25 = some (149) := rfl
theorem rd_134_26 (b : Bool) : am_rd (mrL b) 134 26 = some (150) := rfl
theorem rd_134_27 (b : Bool) : am_rd (mrL b) 134 27 = some (151) := rfl
theorem rd_134_28 (b : Bool) : am_rd (mrL b) 134 28 = some (152) := rfl
theorem rd_134_29 (b : Bool) : am_rd (mrL b) 134 29 = some (153) := rfl
theorem rd_134_31 (b : Bool) : am_rd (mrL b) 134 31 = some (154) := rfl
theorem rd_134_32 (b : Bool) : am_rd (mrL b) 134 32 = some (155) := rfl
theorem rd_134_33 (b : Bool) : am_rd (mrL b) 134 33 = some (156) := rfl
theorem rd_134_34 (b : Bool) : am_rd (mrL b) 134 34 = some (157) := rfl
theorem rd_134_49 (b : Bool) : am_rd (mrL b) 134 49 = some (158) := rfl
theorem rd_134_50 (b : Bool) : am_rd (mrL b) 134 50 = some (159) := rfl
theorem rd_134_51 (b : Bool) : am_rd (mrL b) 134 51 = some (160) := rfl
theorem rd_134_52 (b : Bool) : am_rd (mrL b) 134 52 = some (161) := rfl
theorem rd_134_53 (b : Bool) : am_rd (mrL b) 134 53 = some (162) := rfl
theorem rd_134_54 (b : Bool) : am_rd (mrL b) 134 54 = some (163) := rfl
theorem rd_134_55 (b : Bool) : am_rd (mrL b) 134 55 = some (164) := rfl
theorem rd_134_56 (b : Bool) : am_rd (mrL b) 134 56 = some (165) := rfl
theorem rd_134_57 (b : Bool) : am_rd (mrL b) 134 57 = some (166) := rfl
theorem kd_bkR (b : Bool) (mr : List (List (Option Nat))) (mi : Nat → Nat → Int32) (ml : Nat → Nat → Int64) : am_kd (am_shT, mr, mi, ml) (bkR b) = 4 := by cases b <;> rfl
theorem kd_bkN (b : Bool) (mr : List (List (Option Nat))) (mi : Nat → Nat → Int32) (ml : Nat → Nat → Int64) : am_kd (am_shT, mr, mi, ml) (bkN b) = 4 := by cases b <;> rfl
theorem i32_toInt {n : Nat} (h : n < 2147483648) : (Int32.ofNat n).toInt = n := Int32.toInt_ofNat_of_lt h
theorem cl_n {x : Int32} {q : Nat} (hx : x = Int32.ofNat q) (h : q < 2147483648) : x.toNatClampNeg = q := by
  subst hx
  show (Int32.ofNat q).toInt.toNat = q
  rw [i32_toInt h]
  rfl
theorem lt_n {x y : Int32} {a b : Nat} (hx : x = Int32.ofNat a) (hy : y = Int32.ofNat b) (ha : a < 2147483648) (hb : b < 2147483648) : x < y ↔ a < b := by
  subst hx; subst hy
  rw [Int32.lt_iff_toInt_lt, i32_toInt ha, i32_toInt hb]
  omega
theorem le_n {x y : Int32} {a b : Nat} (hx : x = Int32.ofNat a) (hy : y = Int32.ofNat b) (ha : a < 2147483648) (hb : b < 2147483648) : x ≤ y ↔ a ≤ b := by
  subst hx; subst hy
  rw [Int32.le_iff_toInt_le, i32_toInt ha, i32_toInt hb]
  omega
theorem eq_n {x y : Int32} {a b : Nat} (hx : x = Int32.ofNat a) (hy : y = Int32.ofNat b) (ha : a < 2147483648) (hb : b < 2147483648) : x = y ↔ a = b := by
  subst hx; subst hy
  rw [← Int32.toInt_inj, i32_toInt ha, i32_toInt hb]
  omega
theorem ne_n {x y : Int32} {a b : Nat} (hx : x = Int32.ofNat a) (hy : y = Int32.ofNat b) (ha : a < 2147483648) (hb : b < 2147483648) : (¬ x = y) ↔ a ≠ b := not_congr (eq_n hx hy ha hb)
theorem add_n {x y : Int32} {a b : Nat} (hx : x = Int32.ofNat a) (hy : y = Int32.ofNat b) : x + y = Int32.ofNat (a + b) := by
  subst hx; subst hy; exact (Int32.ofNat_add a b).symm
theorem mul_n {x y : Int32} {a b : Nat} (hx : x = Int32.ofNat a) (hy : y = Int32.ofNat b) : x * y = Int32.ofNat (a * b) := by
  subst hx; subst hy; exact (Int32.ofNat_mul a b).symm
theorem sub_n {x y : Int32} {a b : Nat} (hx : x = Int32.ofNat a) (hy : y = Int32.ofNat b) (h : b ≤ a) : x - y = Int32.ofNat (a - b) := by
  subst hx; subst hy
  have e : Int32.ofNat a = Int32.ofNat (a - b) + Int32.ofNat b := by rw [← Int32.ofNat_add]; congr 1; omega
  rw [e, Int32.add_sub_cancel]
theorem dec_n {x : Int32} {a : Nat} (hx : x = Int32.ofNat a) (h : 1 ≤ a) : x + Int32.ofInt (-1) = Int32.ofNat (a - 1) := by
  have e := sub_n hx (rfl : (1 : Int32) = Int32.ofNat 1) h
  rw [← e, Int32.sub_eq_add_neg]
  rfl
theorem ix_n {x : Int32} {q n : Nat} (hx : x = Int32.ofNat q) (hq : q < n) (hn : n ≤ 65536) : am_ix x n = true := by
  rw [am_ix_iff]
  refine ⟨(le_n (rfl : (0 : Int32) = Int32.ofNat 0) hx (by decide) (by omega)).mpr (Nat.zero_le _), ?_⟩
  rw [cl_n hx (by omega)]
  exact hq
/-- a number between 0 and n is one of ours -/
theorem nat_of {x : Int32} (h : 0 ≤ x.toInt) : ∃ q : Nat, x = Int32.ofNat q ∧ (q : Int) = x.toInt := by
  refine ⟨x.toInt.toNat, ?_, by omega⟩
  rw [← Int32.toInt_inj, i32_toInt (by have := x.toInt_lt; omega)]
  omega
section WN
variable {X : Nat × (Nat → Int32)} {d mid j : Nat} {ls st : List Value} {Q : Option Value → am_M → Prop} {p r1 r2 r3 ix : Nat} {x y v : Int32} {lv ly : Int64} {a b : Nat} {sh : List (Nat × Nat)} {mr : List (List (Option Nat))} {mi : Nat → Nat → Int32} {ml : Nat → Nat → Int64} {n q : Nat}
theorem wi_getIv (hc : am_cd mid j = some (.getfield ix, p, r1, r2, 0)) (hk : am_kd (sh, mr, mi, ml) a = r1) (hv : mi a r2 = v) (k : am_wp X d mid (j + 1) ls (.int v :: st) (sh, mr, mi, ml) Q) : am_wp X d mid j ls (.ref a :: st) (sh, mr, mi, ml) Q := wi_getI hc hk (by rw [hv]; exact k)
theorem wi_getLv (hc : am_cd mid j = some (.getfield ix, p, r1, r2, 1)) (hk : am_kd (sh, mr, mi, ml) a = r1) (hv : ml a r2 = lv) (k : am_wp X d mid (j + 1) ls (.long lv :: st) (sh, mr, mi, ml) Q) : am_wp X d mid j ls (.ref a :: st) (sh, mr, mi, ml) Q := wi_getL hc hk (by rw [hv]; exact k)
theorem wn_iaload (hc : am_cd mid j = some (.iaload, p, r1, r2, r3)) (ha : am_ln (sh, mr, mi, ml) a 100 = some n) (hx : x = Int32.ofNat q) (hq : q < n) (hn : n ≤ 65536) (h5 : ¬ a = 1000050) (h4 : ¬ a = 1000040) (hv : mi a q = v) (k : am_wp X d mid (j + 1) ls (.int v :: st) (sh, mr, mi, ml) Q) : am_wp X d mid j ls (.int x :: .ref a :: st) (sh, mr, mi, ml) Q := wi_iaload hc ha (ix_n hx hq hn) (cl_n hx (by omega)) h5 h4 (by rw [hv]; exact k)
theorem wn_ialoadO (hc : am_cd mid j = some (.iaload, p, r1, r2, r3)) (hx : x = Int32.ofNat q) (hq : q < 8) (k : am_wp X d mid (j + 1) ls (.int (am_orders q) :: st) (sh, mr, mi, ml) Q) : am_wp X d mid j ls (.int x :: .ref 1000040 :: st) (sh, mr, mi, ml) Q := wi_ialoadO hc (ix_n hx hq (by decide)) (cl_n hx (by omega)) k
theorem wn_baload (hc : am_cd mid j = some (.baload, p, r1, r2, r3)) (ha : am_ln (sh, mr, mi, ml) a 101 = some n ∨ am_ln (sh, mr, mi, ml) a 102 = some n) (hx : x = Int32.ofNat q) (hq : q < n) (hn : n ≤ 65536) (hv : mi a q = v) (k : am_wp X d mid (j + 1) ls (.int v :: st) (sh, mr, mi, ml) Q) : am_wp X d mid j ls (.int x :: .ref a :: st) (sh, mr, mi, ml) Q := wi_baload hc ha (ix_n hx hq hn) (cl_n hx (by omega)) (by rw [hv]; exact k)
theorem wn_laload (hc : am_cd mid j = some (.laload, p, r1, r2, r3)) (ha : am_ln (sh, mr, mi, ml) a 103 = some n) (hx : x = Int32.ofNat q) (hq : q < n) (hn : n ≤ 65536) (hv : ml a q = lv) (k : am_wp X d mid (j + 1) ls (.long lv :: st) (sh, mr, mi, ml) Q) : am_wp X d mid j ls (.int x :: .ref a :: st) (sh, mr, mi, ml) Q := wi_laload hc ha (ix_n hx hq hn) (cl_n hx (by omega)) (by rw [hv]; exact k)
theorem wn_aaload (hc : am_cd mid j = some (.aaload, p, r1, r2, r3)) (ha : am_ln (sh, mr, mi, ml) a 104 = some n ∨ am_ln (sh, mr, mi, ml) a 105 = some n) (hx : x = Int32.ofNat q) (hq : q < n) (hn : n ≤ 65536) (hr : am_rd mr a q = some b) (k : am_wp X d mid (j + 1) ls (.ref b :: st) (sh, mr, mi, ml) Q) : am_wp X d mid j ls (.int x :: .ref a :: st) (sh, mr, mi, ml) Q := wi_aaload hc ha (ix_n hx hq hn) (cl_n hx (by omega)) hr k
theorem wn_iastore (hc : am_cd mid j = some (.iastore, p, r1, r2, r3)) (ha : am_ln (sh, mr, mi, ml) a 100 = some n) (hx : x = Int32.ofNat q) (hq : q < n) (hn : n ≤ 65536) (k : am_wp X d mid (j + 1) ls st (sh, mr, u2 mi a q y, ml) Q) : am_wp X d mid j ls (.int y :: .int x :: .ref a :: st) (sh, mr, mi, ml) Q := wi_iastore hc ha (ix_n hx hq hn) (cl_n hx (by omega)) k
theorem wn_lastore (hc : am_cd mid j = some (.lastore, p, r1, r2, r3)) (ha : am_ln (sh, mr, mi, ml) a 103 = some n) (hx : x = Int32.ofNat q) (hq : q < n) (hn : n ≤ 65536) (k : am_wp X d mid (j + 1) ls st (sh, mr, mi, u2 ml a q ly) Q) : am_wp X d mid j ls (.long ly :: .int x :: .ref a :: st) (sh, mr, mi, ml) Q := wi_lastore hc ha (ix_n hx hq hn) (cl_n hx (by omega)) k
theorem wn_bastoreB (hc : am_cd mid j = some (.bastore, p, r1, r2, r3)) (ha : am_ln (sh, mr, mi, ml) a 101 = some n) (hx : x = Int32.ofNat q) (hq : q < n) (hn : n ≤ 65536) (k : am_wp X d mid (j + 1) ls st (sh, mr, u2 mi a q (vp_nar .byte y), ml) Q) : am_wp X d mid j ls (.int y :: .int x :: .ref a :: st) (sh, mr, mi, ml) Q := wi_bastoreB hc ha (ix_n hx hq hn) (cl_n hx (by omega)) rfl k
theorem wn_bastoreZ (hc : am_cd mid j = some (.bastore, p, r1, r2, r3)) (ha0 : am_ln (sh, mr, mi, ml) a 101 = none) (ha : am_ln (sh, mr, mi, ml) a 102 = some n) (hx : x = Int32.ofNat q) (hq : q < n) (hn : n ≤ 65536) (k : am_wp X d mid (j + 1) ls st (sh, mr, u2 mi a q (vp_nar .boolean y), ml) Q) : am_wp X d mid j ls (.int y :: .int x :: .ref a :: st) (sh, mr, mi, ml) Q := wi_bastoreZ hc ha0 ha (ix_n hx hq hn) (cl_n hx (by omega)) rfl k
end WN
end
