section
-- begun as the printed texts: the skeleton's PART A and NAMES.whole (cut by wip/whole/gen/names.py)
/-- a private method of a class that the tables say can be made, by its rows of tables_1 -/
def lw_okq (q : MethodName × Nat) : Prop := (q.1.cls ≠ "java/lang/invoke/MethodHandle" ∧ q.1.cls ≠ "java/lang/invoke/VarHandle") ∧ Cond.instantiable q.1.cls q.2 ∈ tables_1 ∧ Cond.privateMethod q.1 ∈ tables_1 ∧ Cond.instanceMethod q.1 ∈ tables_1
theorem lw_p0 : lw_okq (⟨"KnockPipes$Reader", "clause", "()Z"⟩, 3) := ⟨⟨by decide +kernel, by decide +kernel⟩, List.mem_of_getElem? (i := 183) (by decide +kernel), List.mem_of_getElem? (i := 313) (by decide +kernel), List.mem_of_getElem? (i := 314) (by decide +kernel)⟩
theorem lw_p1 : lw_okq (⟨"KnockPipes$Reader", "word", "()I"⟩, 3) := ⟨⟨by decide +kernel, by decide +kernel⟩, List.mem_of_getElem? (i := 183) (by decide +kernel), List.mem_of_getElem? (i := 317) (by decide +kernel), List.mem_of_getElem? (i := 318) (by decide +kernel)⟩
theorem lw_p2 : lw_okq (⟨"KnockPipes$Reader", "peek", "()I"⟩, 3) := ⟨⟨by decide +kernel, by decide +kernel⟩, List.mem_of_getElem? (i := 183) (by decide +kernel), List.mem_of_getElem? (i := 362) (by decide +kernel), List.mem_of_getElem? (i := 363) (by decide +kernel)⟩
theorem lw_p3 : lw_okq (⟨"KnockPipes$Reader", "eats", "(C)Z"⟩, 3) := ⟨⟨by decide +kernel, by decide +kernel⟩, List.mem_of_getElem? (i := 183) (by decide +kernel), List.mem_of_getElem? (i := 366) (by decide +kernel), List.mem_of_getElem? (i := 367) (by decide +kernel)⟩
theorem lw_p4 : lw_okq (⟨"KnockPipes$Reader", "number", "()I"⟩, 3) := ⟨⟨by decide +kernel, by decide +kernel⟩, List.mem_of_getElem? (i := 183) (by decide +kernel), List.mem_of_getElem? (i := 370) (by decide +kernel), List.mem_of_getElem? (i := 371) (by decide +kernel)⟩
theorem lw_p5 : lw_okq (⟨"KnockPipes$Reader", "digit", "()I"⟩, 3) := ⟨⟨by decide +kernel, by decide +kernel⟩, List.mem_of_getElem? (i := 183) (by decide +kernel), List.mem_of_getElem? (i := 374) (by decide +kernel), List.mem_of_getElem? (i := 375) (by decide +kernel)⟩
theorem lw_p6 : lw_okq (⟨"KnockPipes$Reader", "either", "(I)Z"⟩, 3) := ⟨⟨by decide +kernel, by decide +kernel⟩, List.mem_of_getElem? (i := 183) (by decide +kernel), List.mem_of_getElem? (i := 378) (by decide +kernel), List.mem_of_getElem? (i := 379) (by decide +kernel)⟩
theorem lw_p7 : lw_okq (⟨"KnockPipes$Reader", "both", "(I)Z"⟩, 3) := ⟨⟨by decide +kernel, by decide +kernel⟩, List.mem_of_getElem? (i := 183) (by decide +kernel), List.mem_of_getElem? (i := 382) (by decide +kernel), List.mem_of_getElem? (i := 383) (by decide +kernel)⟩
theorem lw_p8 : lw_okq (⟨"KnockPipes$Reader", "factor", "(I)Z"⟩, 3) := ⟨⟨by decide +kernel, by decide +kernel⟩, List.mem_of_getElem? (i := 183) (by decide +kernel), List.mem_of_getElem? (i := 386) (by decide +kernel), List.mem_of_getElem? (i := 387) (by decide +kernel)⟩
theorem lw_p9 : lw_okq (⟨"KnockPipes$Reader", "test", "()Z"⟩, 3) := ⟨⟨by decide +kernel, by decide +kernel⟩, List.mem_of_getElem? (i := 183) (by decide +kernel), List.mem_of_getElem? (i := 390) (by decide +kernel), List.mem_of_getElem? (i := 391) (by decide +kernel)⟩
theorem lw_p10 : lw_okq (⟨"KnockPipes$Reader", "oneOf", "(Ljava/lang/String;)I"⟩, 3) := ⟨⟨by decide +kernel, by decide +kernel⟩, List.mem_of_getElem? (i := 183) (by decide +kernel), List.mem_of_getElem? (i := 395) (by decide +kernel), List.mem_of_getElem? (i := 396) (by decide +kernel)⟩
theorem lw_p11 : lw_okq (⟨"KnockPipes", "settle", "()V"⟩, 8) := ⟨⟨by decide +kernel, by decide +kernel⟩, List.mem_of_getElem? (i := 21) (by decide +kernel), List.mem_of_getElem? (i := 435) (by decide +kernel), List.mem_of_getElem? (i := 436) (by decide +kernel)⟩
theorem lw_p12 : lw_okq (⟨"KnockPipes$Sounds", "holds", "(LKnockPipes$House;IILKnockPipes$Noises;I)J"⟩, 6) := ⟨⟨by decide +kernel, by decide +kernel⟩, List.mem_of_getElem? (i := 205) (by decide +kernel), List.mem_of_getElem? (i := 444) (by decide +kernel), List.mem_of_getElem? (i := 445) (by decide +kernel)⟩
theorem lw_p13 : lw_okq (⟨"KnockPipes", "ring", "(JJJ)V"⟩, 8) := ⟨⟨by decide +kernel, by decide +kernel⟩, List.mem_of_getElem? (i := 21) (by decide +kernel), List.mem_of_getElem? (i := 475) (by decide +kernel), List.mem_of_getElem? (i := 476) (by decide +kernel)⟩
theorem lw_p14 : lw_okq (⟨"KnockPipes$Sounds", "tick", "(IZ)V"⟩, 6) := ⟨⟨by decide +kernel, by decide +kernel⟩, List.mem_of_getElem? (i := 205) (by decide +kernel), List.mem_of_getElem? (i := 493) (by decide +kernel), List.mem_of_getElem? (i := 494) (by decide +kernel)⟩
theorem lw_p15 : lw_okq (⟨"KnockPipes$Sounds", "mark", "(IJIJ)V"⟩, 6) := ⟨⟨by decide +kernel, by decide +kernel⟩, List.mem_of_getElem? (i := 205) (by decide +kernel), List.mem_of_getElem? (i := 508) (by decide +kernel), List.mem_of_getElem? (i := 509) (by decide +kernel)⟩
def lw_privs_1 : List (MethodName × Nat) := [(⟨"KnockPipes$Reader", "clause", "()Z"⟩, 3), (⟨"KnockPipes$Reader", "word", "()I"⟩, 3), (⟨"KnockPipes$Reader", "peek", "()I"⟩, 3), (⟨"KnockPipes$Reader", "eats", "(C)Z"⟩, 3), (⟨"KnockPipes$Reader", "number", "()I"⟩, 3), (⟨"KnockPipes$Reader", "digit", "()I"⟩, 3), (⟨"KnockPipes$Reader", "either", "(I)Z"⟩, 3), (⟨"KnockPipes$Reader", "both", "(I)Z"⟩, 3), (⟨"KnockPipes$Reader", "factor", "(I)Z"⟩, 3), (⟨"KnockPipes$Reader", "test", "()Z"⟩, 3), (⟨"KnockPipes$Reader", "oneOf", "(Ljava/lang/String;)I"⟩, 3), (⟨"KnockPipes", "settle", "()V"⟩, 8), (⟨"KnockPipes$Sounds", "holds", "(LKnockPipes$House;IILKnockPipes$Noises;I)J"⟩, 6), (⟨"KnockPipes", "ring", "(JJJ)V"⟩, 8), (⟨"KnockPipes$Sounds", "tick", "(IZ)V"⟩, 6), (⟨"KnockPipes$Sounds", "mark", "(IJIJ)V"⟩, 6)]
theorem lw_r1 : ∀ q ∈ lw_privs_1, lw_okq q := List.forall_mem_cons.mpr ⟨lw_p0, List.forall_mem_cons.mpr ⟨lw_p1, List.forall_mem_cons.mpr ⟨lw_p2, List.forall_mem_cons.mpr ⟨lw_p3, List.forall_mem_cons.mpr ⟨lw_p4, List.forall_mem_cons.mpr ⟨lw_p5, List.forall_mem_cons.mpr ⟨lw_p6, List.forall_mem_cons.mpr ⟨lw_p7, List.forall_mem_cons.mpr ⟨lw_p8, List.forall_mem_cons.mpr ⟨lw_p9, List.forall_mem_cons.mpr ⟨lw_p10, List.forall_mem_cons.mpr ⟨lw_p11, List.forall_mem_cons.mpr ⟨lw_p12, List.forall_mem_cons.mpr ⟨lw_p13, List.forall_mem_cons.mpr ⟨lw_p14, List.forall_mem_cons.mpr ⟨lw_p15, fun _ h => absurd h List.not_mem_nil⟩⟩⟩⟩⟩⟩⟩⟩⟩⟩⟩⟩⟩⟩⟩⟩
theorem lw_p16 : lw_okq (⟨"KnockPipes", "loudOf", "(IIII)I"⟩, 8) := ⟨⟨by decide +kernel, by decide +kernel⟩, List.mem_of_getElem? (i := 21) (by decide +kernel), List.mem_of_getElem? (i := 560) (by decide +kernel), List.mem_of_getElem? (i := 561) (by decide +kernel)⟩
theorem lw_p17 : lw_okq (⟨"KnockPipes", "heardInDay", "(I)I"⟩, 8) := ⟨⟨by decide +kernel, by decide +kernel⟩, List.mem_of_getElem? (i := 21) (by decide +kernel), List.mem_of_getElem? (i := 575) (by decide +kernel), List.mem_of_getElem? (i := 576) (by decide +kernel)⟩
theorem lw_p18 : lw_okq (⟨"KnockPipes", "heardAt", "(II)I"⟩, 8) := ⟨⟨by decide +kernel, by decide +kernel⟩, List.mem_of_getElem? (i := 21) (by decide +kernel), List.mem_of_getElem? (i := 579) (by decide +kernel), List.mem_of_getElem? (i := 580) (by decide +kernel)⟩
theorem lw_p19 : lw_okq (⟨"KnockPipes", "heardAlone", "(III)I"⟩, 8) := ⟨⟨by decide +kernel, by decide +kernel⟩, List.mem_of_getElem? (i := 21) (by decide +kernel), List.mem_of_getElem? (i := 583) (by decide +kernel), List.mem_of_getElem? (i := 584) (by decide +kernel)⟩
theorem lw_p20 : lw_okq (⟨"KnockPipes", "heardOf", "(IIII)I"⟩, 8) := ⟨⟨by decide +kernel, by decide +kernel⟩, List.mem_of_getElem? (i := 21) (by decide +kernel), List.mem_of_getElem? (i := 587) (by decide +kernel), List.mem_of_getElem? (i := 588) (by decide +kernel)⟩
theorem lw_p21 : lw_okq (⟨"KnockPipes", "loudOfAll", "(II)I"⟩, 8) := ⟨⟨by decide +kernel, by decide +kernel⟩, List.mem_of_getElem? (i := 21) (by decide +kernel), List.mem_of_getElem? (i := 595) (by decide +kernel), List.mem_of_getElem? (i := 596) (by decide +kernel)⟩
theorem lw_p22 : lw_okq (⟨"KnockPipes", "fittingRows", "(I)I"⟩, 8) := ⟨⟨by decide +kernel, by decide +kernel⟩, List.mem_of_getElem? (i := 21) (by decide +kernel), List.mem_of_getElem? (i := 615) (by decide +kernel), List.mem_of_getElem? (i := 616) (by decide +kernel)⟩
theorem lw_p23 : lw_okq (⟨"KnockPipes", "mostFitting", "()I"⟩, 8) := ⟨⟨by decide +kernel, by decide +kernel⟩, List.mem_of_getElem? (i := 21) (by decide +kernel), List.mem_of_getElem? (i := 636) (by decide +kernel), List.mem_of_getElem? (i := 637) (by decide +kernel)⟩
theorem lw_p24 : lw_okq (⟨"KnockPipes", "allFitting", "()I"⟩, 8) := ⟨⟨by decide +kernel, by decide +kernel⟩, List.mem_of_getElem? (i := 21) (by decide +kernel), List.mem_of_getElem? (i := 640) (by decide +kernel), List.mem_of_getElem? (i := 641) (by decide +kernel)⟩
theorem lw_p25 : lw_okq (⟨"KnockPipes", "fitsAllRows", "(I)Z"⟩, 8) := ⟨⟨by decide +kernel, by decide +kernel⟩, List.mem_of_getElem? (i := 21) (by decide +kernel), List.mem_of_getElem? (i := 644) (by decide +kernel), List.mem_of_getElem? (i := 645) (by decide +kernel)⟩
theorem lw_p26 : lw_okq (⟨"KnockPipes", "shareOf", "(II)I"⟩, 8) := ⟨⟨by decide +kernel, by decide +kernel⟩, List.mem_of_getElem? (i := 21) (by decide +kernel), List.mem_of_getElem? (i := 648) (by decide +kernel), List.mem_of_getElem? (i := 649) (by decide +kernel)⟩
theorem lw_p27 : lw_okq (⟨"KnockPipes", "worst", "()I"⟩, 8) := ⟨⟨by decide +kernel, by decide +kernel⟩, List.mem_of_getElem? (i := 21) (by decide +kernel), List.mem_of_getElem? (i := 652) (by decide +kernel), List.mem_of_getElem? (i := 653) (by decide +kernel)⟩
theorem lw_p28 : lw_okq (⟨"KnockPipes", "harmOf", "(I)I"⟩, 8) := ⟨⟨by decide +kernel, by decide +kernel⟩, List.mem_of_getElem? (i := 21) (by decide +kernel), List.mem_of_getElem? (i := 656) (by decide +kernel), List.mem_of_getElem? (i := 657) (by decide +kernel)⟩
theorem lw_p29 : lw_okq (⟨"KnockPipes", "mostAlike", "(II)I"⟩, 8) := ⟨⟨by decide +kernel, by decide +kernel⟩, List.mem_of_getElem? (i := 21) (by decide +kernel), List.mem_of_getElem? (i := 664) (by decide +kernel), List.mem_of_getElem? (i := 665) (by decide +kernel)⟩
theorem lw_p30 : lw_okq (⟨"KnockPipes", "heardInDayOf", "(II)I"⟩, 8) := ⟨⟨by decide +kernel, by decide +kernel⟩, List.mem_of_getElem? (i := 21) (by decide +kernel), List.mem_of_getElem? (i := 676) (by decide +kernel), List.mem_of_getElem? (i := 677) (by decide +kernel)⟩
theorem lw_p31 : lw_okq (⟨"KnockPipes", "rowsHeard", "()I"⟩, 8) := ⟨⟨by decide +kernel, by decide +kernel⟩, List.mem_of_getElem? (i := 21) (by decide +kernel), List.mem_of_getElem? (i := 706) (by decide +kernel), List.mem_of_getElem? (i := 707) (by decide +kernel)⟩
def lw_privs_2 : List (MethodName × Nat) := [(⟨"KnockPipes", "loudOf", "(IIII)I"⟩, 8), (⟨"KnockPipes", "heardInDay", "(I)I"⟩, 8), (⟨"KnockPipes", "heardAt", "(II)I"⟩, 8), (⟨"KnockPipes", "heardAlone", "(III)I"⟩, 8), (⟨"KnockPipes", "heardOf", "(IIII)I"⟩, 8), (⟨"KnockPipes", "loudOfAll", "(II)I"⟩, 8), (⟨"KnockPipes", "fittingRows", "(I)I"⟩, 8), (⟨"KnockPipes", "mostFitting", "()I"⟩, 8), (⟨"KnockPipes", "allFitting", "()I"⟩, 8), (⟨"KnockPipes", "fitsAllRows", "(I)Z"⟩, 8), (⟨"KnockPipes", "shareOf", "(II)I"⟩, 8), (⟨"KnockPipes", "worst", "()I"⟩, 8), (⟨"KnockPipes", "harmOf", "(I)I"⟩, 8), (⟨"KnockPipes", "mostAlike", "(II)I"⟩, 8), (⟨"KnockPipes", "heardInDayOf", "(II)I"⟩, 8), (⟨"KnockPipes", "rowsHeard", "()I"⟩, 8)]
theorem lw_r2 : ∀ q ∈ lw_privs_2, lw_okq q := List.forall_mem_cons.mpr ⟨lw_p16, List.forall_mem_cons.mpr ⟨lw_p17, List.forall_mem_cons.mpr ⟨lw_p18, List.forall_mem_cons.mpr ⟨lw_p19, List.forall_mem_cons.mpr ⟨lw_p20, List.forall_mem_cons.mpr ⟨lw_p21, List.forall_mem_cons.mpr ⟨lw_p22, List.forall_mem_cons.mpr ⟨lw_p23, List.forall_mem_cons.mpr ⟨lw_p24, List.forall_mem_cons.mpr ⟨lw_p25, List.forall_mem_cons.mpr ⟨lw_p26, List.forall_mem_cons.mpr ⟨lw_p27, List.forall_mem_cons.mpr ⟨lw_p28, List.forall_mem_cons.mpr ⟨lw_p29, List.forall_mem_cons.mpr ⟨lw_p30, List.forall_mem_cons.mpr ⟨lw_p31, fun _ h => absurd h List.not_mem_nil⟩⟩⟩⟩⟩⟩⟩⟩⟩⟩⟩⟩⟩⟩⟩⟩
theorem lw_p32 : lw_okq (⟨"KnockPipes$Acts", "send", "(IIII)I"⟩, 5) := ⟨⟨by decide +kernel, by decide +kernel⟩, List.mem_of_getElem? (i := 231) (by decide +kernel), List.mem_of_getElem? (i := 722) (by decide +kernel), List.mem_of_getElem? (i := 723) (by decide +kernel)⟩
theorem lw_p33 : lw_okq (⟨"KnockPipes$Acts", "run", "(IIII)I"⟩, 5) := ⟨⟨by decide +kernel, by decide +kernel⟩, List.mem_of_getElem? (i := 231) (by decide +kernel), List.mem_of_getElem? (i := 730) (by decide +kernel), List.mem_of_getElem? (i := 731) (by decide +kernel)⟩
theorem lw_p34 : lw_okq (⟨"KnockPipesModel", "clauseHere", "()V"⟩, 26) := ⟨⟨by decide +kernel, by decide +kernel⟩, List.mem_of_getElem? (i := 771) (by decide +kernel), List.mem_of_getElem? (i := 872) (by decide +kernel), List.mem_of_getElem? (i := 873) (by decide +kernel)⟩
theorem lw_p35 : lw_okq (⟨"KnockPipesModel", "here", "()I"⟩, 26) := ⟨⟨by decide +kernel, by decide +kernel⟩, List.mem_of_getElem? (i := 771) (by decide +kernel), List.mem_of_getElem? (i := 876) (by decide +kernel), List.mem_of_getElem? (i := 877) (by decide +kernel)⟩
theorem lw_p36 : lw_okq (⟨"KnockPipesModel", "much", "(ILjava/lang/String;)V"⟩, 26) := ⟨⟨by decide +kernel, by decide +kernel⟩, List.mem_of_getElem? (i := 771) (by decide +kernel), List.mem_of_getElem? (i := 881) (by decide +kernel), List.mem_of_getElem? (i := 882) (by decide +kernel)⟩
theorem lw_p37 : lw_okq (⟨"KnockPipesModel", "spells", "(Ljava/lang/String;)V"⟩, 26) := ⟨⟨by decide +kernel, by decide +kernel⟩, List.mem_of_getElem? (i := 771) (by decide +kernel), List.mem_of_getElem? (i := 885) (by decide +kernel), List.mem_of_getElem? (i := 886) (by decide +kernel)⟩
theorem lw_p38 : lw_okq (⟨"KnockPipesModel", "must", "(I)V"⟩, 26) := ⟨⟨by decide +kernel, by decide +kernel⟩, List.mem_of_getElem? (i := 771) (by decide +kernel), List.mem_of_getElem? (i := 891) (by decide +kernel), List.mem_of_getElem? (i := 892) (by decide +kernel)⟩
theorem lw_p39 : lw_okq (⟨"KnockPipesModel", "figures", "()I"⟩, 26) := ⟨⟨by decide +kernel, by decide +kernel⟩, List.mem_of_getElem? (i := 771) (by decide +kernel), List.mem_of_getElem? (i := 895) (by decide +kernel), List.mem_of_getElem? (i := 896) (by decide +kernel)⟩
theorem lw_p40 : lw_okq (⟨"KnockPipesModel", "some", "()V"⟩, 26) := ⟨⟨by decide +kernel, by decide +kernel⟩, List.mem_of_getElem? (i := 771) (by decide +kernel), List.mem_of_getElem? (i := 899) (by decide +kernel), List.mem_of_getElem? (i := 900) (by decide +kernel)⟩
theorem lw_p41 : lw_okq (⟨"KnockPipesModel", "every", "()V"⟩, 26) := ⟨⟨by decide +kernel, by decide +kernel⟩, List.mem_of_getElem? (i := 771) (by decide +kernel), List.mem_of_getElem? (i := 903) (by decide +kernel), List.mem_of_getElem? (i := 904) (by decide +kernel)⟩
theorem lw_p42 : lw_okq (⟨"KnockPipesModel", "factor", "()V"⟩, 26) := ⟨⟨by decide +kernel, by decide +kernel⟩, List.mem_of_getElem? (i := 771) (by decide +kernel), List.mem_of_getElem? (i := 907) (by decide +kernel), List.mem_of_getElem? (i := 908) (by decide +kernel)⟩
theorem lw_p43 : lw_okq (⟨"KnockPipesModel", "emits", "(I)V"⟩, 26) := ⟨⟨by decide +kernel, by decide +kernel⟩, List.mem_of_getElem? (i := 771) (by decide +kernel), List.mem_of_getElem? (i := 911) (by decide +kernel), List.mem_of_getElem? (i := 912) (by decide +kernel)⟩
theorem lw_p44 : lw_okq (⟨"KnockPipesModel", "among", "(Ljava/lang/String;)I"⟩, 26) := ⟨⟨by decide +kernel, by decide +kernel⟩, List.mem_of_getElem? (i := 771) (by decide +kernel), List.mem_of_getElem? (i := 916) (by decide +kernel), List.mem_of_getElem? (i := 917) (by decide +kernel)⟩
theorem lw_p45 : lw_okq (⟨"KnockPipesModel", "clauseOfH", "()V"⟩, 26) := ⟨⟨by decide +kernel, by decide +kernel⟩, List.mem_of_getElem? (i := 771) (by decide +kernel), List.mem_of_getElem? (i := 921) (by decide +kernel), List.mem_of_getElem? (i := 922) (by decide +kernel)⟩
theorem lw_p46 : lw_okq (⟨"KnockPipesModel", "tellsHere", "(ILjava/lang/String;)V"⟩, 26) := ⟨⟨by decide +kernel, by decide +kernel⟩, List.mem_of_getElem? (i := 771) (by decide +kernel), List.mem_of_getElem? (i := 927) (by decide +kernel), List.mem_of_getElem? (i := 928) (by decide +kernel)⟩
theorem lw_p47 : lw_okq (⟨"KnockPipesModel", "tellsOf", "(II)I"⟩, 26) := ⟨⟨by decide +kernel, by decide +kernel⟩, List.mem_of_getElem? (i := 771) (by decide +kernel), List.mem_of_getElem? (i := 939) (by decide +kernel), List.mem_of_getElem? (i := 940) (by decide +kernel)⟩
def lw_privs_3 : List (MethodName × Nat) := [(⟨"KnockPipes$Acts", "send", "(IIII)I"⟩, 5), (⟨"KnockPipes$Acts", "run", "(IIII)I"⟩, 5), (⟨"KnockPipesModel", "clauseHere", "()V"⟩, 26), (⟨"KnockPipesModel", "here", "()I"⟩, 26), (⟨"KnockPipesModel", "much", "(ILjava/lang/String;)V"⟩, 26), (⟨"KnockPipesModel", "spells", "(Ljava/lang/String;)V"⟩, 26), (⟨"KnockPipesModel", "must", "(I)V"⟩, 26), (⟨"KnockPipesModel", "figures", "()I"⟩, 26), (⟨"KnockPipesModel", "some", "()V"⟩, 26), (⟨"KnockPipesModel", "every", "()V"⟩, 26), (⟨"KnockPipesModel", "factor", "()V"⟩, 26), (⟨"KnockPipesModel", "emits", "(I)V"⟩, 26), (⟨"KnockPipesModel", "among", "(Ljava/lang/String;)I"⟩, 26), (⟨"KnockPipesModel", "clauseOfH", "()V"⟩, 26), (⟨"KnockPipesModel", "tellsHere", "(ILjava/lang/String;)V"⟩, 26), (⟨"KnockPipesModel", "tellsOf", "(II)I"⟩, 26)]
theorem lw_r3 : ∀ q ∈ lw_privs_3, lw_okq q := List.forall_mem_cons.mpr ⟨lw_p32, List.forall_mem_cons.mpr ⟨lw_p33, List.forall_mem_cons.mpr ⟨lw_p34, List.forall_mem_cons.mpr ⟨lw_p35, List.forall_mem_cons.mpr ⟨lw_p36, List.forall_mem_cons.mpr ⟨lw_p37, List.forall_mem_cons.mpr ⟨lw_p38, List.forall_mem_cons.mpr ⟨lw_p39, List.forall_mem_cons.mpr ⟨lw_p40, List.forall_mem_cons.mpr ⟨lw_p41, List.forall_mem_cons.mpr ⟨lw_p42, List.forall_mem_cons.mpr ⟨lw_p43, List.forall_mem_cons.mpr ⟨lw_p44, List.forall_mem_cons.mpr ⟨lw_p45, List.forall_mem_cons.mpr ⟨lw_p46, List.forall_mem_cons.mpr ⟨lw_p47, fun _ h => absurd h List.not_mem_nil⟩⟩⟩⟩⟩⟩⟩⟩⟩⟩⟩⟩⟩⟩⟩⟩
theorem lw_p48 : lw_okq (⟨"KnockPipesModel", "warms", "()V"⟩, 26) := ⟨⟨by decide +kernel, by decide +kernel⟩, List.mem_of_getElem? (i := 771) (by decide +kernel), List.mem_of_getElem? (i := 950) (by decide +kernel), List.mem_of_getElem? (i := 951) (by decide +kernel)⟩
theorem lw_p49 : lw_okq (⟨"KnockPipesModel", "isOn", "(II)Z"⟩, 26) := ⟨⟨by decide +kernel, by decide +kernel⟩, List.mem_of_getElem? (i := 771) (by decide +kernel), List.mem_of_getElem? (i := 954) (by decide +kernel), List.mem_of_getElem? (i := 955) (by decide +kernel)⟩
theorem lw_p50 : lw_okq (⟨"KnockPipesModel", "isNoise", "(I)Z"⟩, 26) := ⟨⟨by decide +kernel, by decide +kernel⟩, List.mem_of_getElem? (i := 771) (by decide +kernel), List.mem_of_getElem? (i := 970) (by decide +kernel), List.mem_of_getElem? (i := 971) (by decide +kernel)⟩
theorem lw_p51 : lw_okq (⟨"KnockPipesModel", "goes", "()V"⟩, 26) := ⟨⟨by decide +kernel, by decide +kernel⟩, List.mem_of_getElem? (i := 771) (by decide +kernel), List.mem_of_getElem? (i := 982) (by decide +kernel), List.mem_of_getElem? (i := 983) (by decide +kernel)⟩
theorem lw_p52 : lw_okq (⟨"KnockPipesModel", "goesOf", "(I)V"⟩, 26) := ⟨⟨by decide +kernel, by decide +kernel⟩, List.mem_of_getElem? (i := 771) (by decide +kernel), List.mem_of_getElem? (i := 986) (by decide +kernel), List.mem_of_getElem? (i := 987) (by decide +kernel)⟩
theorem lw_p53 : lw_okq (⟨"KnockPipesModel", "ticks", "(I)V"⟩, 26) := ⟨⟨by decide +kernel, by decide +kernel⟩, List.mem_of_getElem? (i := 771) (by decide +kernel), List.mem_of_getElem? (i := 990) (by decide +kernel), List.mem_of_getElem? (i := 991) (by decide +kernel)⟩
theorem lw_p54 : lw_okq (⟨"KnockPipesModel", "lengthOf", "(II)I"⟩, 26) := ⟨⟨by decide +kernel, by decide +kernel⟩, List.mem_of_getElem? (i := 771) (by decide +kernel), List.mem_of_getElem? (i := 994) (by decide +kernel), List.mem_of_getElem? (i := 995) (by decide +kernel)⟩
theorem lw_p55 : lw_okq (⟨"KnockPipesModel", "looksAt", "(II)V"⟩, 26) := ⟨⟨by decide +kernel, by decide +kernel⟩, List.mem_of_getElem? (i := 771) (by decide +kernel), List.mem_of_getElem? (i := 998) (by decide +kernel), List.mem_of_getElem? (i := 999) (by decide +kernel)⟩
theorem lw_p56 : lw_okq (⟨"KnockPipesModel", "strikesBy", "(I)V"⟩, 26) := ⟨⟨by decide +kernel, by decide +kernel⟩, List.mem_of_getElem? (i := 771) (by decide +kernel), List.mem_of_getElem? (i := 1005) (by decide +kernel), List.mem_of_getElem? (i := 1006) (by decide +kernel)⟩
theorem lw_p57 : lw_okq (⟨"KnockPipesModel", "hums", "(IZ)V"⟩, 26) := ⟨⟨by decide +kernel, by decide +kernel⟩, List.mem_of_getElem? (i := 771) (by decide +kernel), List.mem_of_getElem? (i := 1009) (by decide +kernel), List.mem_of_getElem? (i := 1010) (by decide +kernel)⟩
theorem lw_p58 : lw_okq (⟨"KnockPipesModel", "plainly", "(I)V"⟩, 26) := ⟨⟨by decide +kernel, by decide +kernel⟩, List.mem_of_getElem? (i := 771) (by decide +kernel), List.mem_of_getElem? (i := 1013) (by decide +kernel), List.mem_of_getElem? (i := 1014) (by decide +kernel)⟩
theorem lw_p59 : lw_okq (⟨"KnockPipesModel", "isStill", "(I)Z"⟩, 26) := ⟨⟨by decide +kernel, by decide +kernel⟩, List.mem_of_getElem? (i := 771) (by decide +kernel), List.mem_of_getElem? (i := 1017) (by decide +kernel), List.mem_of_getElem? (i := 1018) (by decide +kernel)⟩
theorem lw_p60 : lw_okq (⟨"KnockPipesModel", "loudOf", "(III)I"⟩, 26) := ⟨⟨by decide +kernel, by decide +kernel⟩, List.mem_of_getElem? (i := 771) (by decide +kernel), List.mem_of_getElem? (i := 1025) (by decide +kernel), List.mem_of_getElem? (i := 1026) (by decide +kernel)⟩
theorem lw_p61 : lw_okq (⟨"KnockPipesModel", "isStruck", "(I)Z"⟩, 26) := ⟨⟨by decide +kernel, by decide +kernel⟩, List.mem_of_getElem? (i := 771) (by decide +kernel), List.mem_of_getElem? (i := 1029) (by decide +kernel), List.mem_of_getElem? (i := 1030) (by decide +kernel)⟩
theorem lw_p62 : lw_okq (⟨"KnockPipesModel", "moving", "()I"⟩, 26) := ⟨⟨by decide +kernel, by decide +kernel⟩, List.mem_of_getElem? (i := 771) (by decide +kernel), List.mem_of_getElem? (i := 1037) (by decide +kernel), List.mem_of_getElem? (i := 1038) (by decide +kernel)⟩
theorem lw_p63 : lw_okq (⟨"KnockPipesModel", "heardAll", "(II)I"⟩, 26) := ⟨⟨by decide +kernel, by decide +kernel⟩, List.mem_of_getElem? (i := 771) (by decide +kernel), List.mem_of_getElem? (i := 1041) (by decide +kernel), List.mem_of_getElem? (i := 1042) (by decide +kernel)⟩
def lw_privs_4 : List (MethodName × Nat) := [(⟨"KnockPipesModel", "warms", "()V"⟩, 26), (⟨"KnockPipesModel", "isOn", "(II)Z"⟩, 26), (⟨"KnockPipesModel", "isNoise", "(I)Z"⟩, 26), (⟨"KnockPipesModel", "goes", "()V"⟩, 26), (⟨"KnockPipesModel", "goesOf", "(I)V"⟩, 26), (⟨"KnockPipesModel", "ticks", "(I)V"⟩, 26), (⟨"KnockPipesModel", "lengthOf", "(II)I"⟩, 26), (⟨"KnockPipesModel", "looksAt", "(II)V"⟩, 26), (⟨"KnockPipesModel", "strikesBy", "(I)V"⟩, 26), (⟨"KnockPipesModel", "hums", "(IZ)V"⟩, 26), (⟨"KnockPipesModel", "plainly", "(I)V"⟩, 26), (⟨"KnockPipesModel", "isStill", "(I)Z"⟩, 26), (⟨"KnockPipesModel", "loudOf", "(III)I"⟩, 26), (⟨"KnockPipesModel", "isStruck", "(I)Z"⟩, 26), (⟨"KnockPipesModel", "moving", "()I"⟩, 26), (⟨"KnockPipesModel", "heardAll", "(II)I"⟩, 26)]
theorem lw_r4 : ∀ q ∈ lw_privs_4, lw_okq q := List.forall_mem_cons.mpr ⟨lw_p48, List.forall_mem_cons.mpr ⟨lw_p49, List.forall_mem_cons.mpr ⟨lw_p50, List.forall_mem_cons.mpr ⟨lw_p51, List.forall_mem_cons.mpr ⟨lw_p52, List.forall_mem_cons.mpr ⟨lw_p53, List.forall_mem_cons.mpr ⟨lw_p54, List.forall_mem_cons.mpr ⟨lw_p55, List.forall_mem_cons.mpr ⟨lw_p56, List.forall_mem_cons.mpr ⟨lw_p57, List.forall_mem_cons.mpr ⟨lw_p58, List.forall_mem_cons.mpr ⟨lw_p59, List.forall_mem_cons.mpr ⟨lw_p60, List.forall_mem_cons.mpr ⟨lw_p61, List.forall_mem_cons.mpr ⟨lw_p62, List.forall_mem_cons.mpr ⟨lw_p63, fun _ h => absurd h List.not_mem_nil⟩⟩⟩⟩⟩⟩⟩⟩⟩⟩⟩⟩⟩⟩⟩⟩
theorem lw_p64 : lw_okq (⟨"KnockPipesModel", "heardOf", "(III)I"⟩, 26) := ⟨⟨by decide +kernel, by decide +kernel⟩, List.mem_of_getElem? (i := 771) (by decide +kernel), List.mem_of_getElem? (i := 1045) (by decide +kernel), List.mem_of_getElem? (i := 1046) (by decide +kernel)⟩
theorem lw_p65 : lw_okq (⟨"KnockPipesModel", "fitsOf", "(I)I"⟩, 26) := ⟨⟨by decide +kernel, by decide +kernel⟩, List.mem_of_getElem? (i := 771) (by decide +kernel), List.mem_of_getElem? (i := 1065) (by decide +kernel), List.mem_of_getElem? (i := 1066) (by decide +kernel)⟩
theorem lw_p66 : lw_okq (⟨"KnockPipesModel", "mostFitting", "()I"⟩, 26) := ⟨⟨by decide +kernel, by decide +kernel⟩, List.mem_of_getElem? (i := 771) (by decide +kernel), List.mem_of_getElem? (i := 1083) (by decide +kernel), List.mem_of_getElem? (i := 1084) (by decide +kernel)⟩
theorem lw_p67 : lw_okq (⟨"KnockPipesModel", "allFitting", "()I"⟩, 26) := ⟨⟨by decide +kernel, by decide +kernel⟩, List.mem_of_getElem? (i := 771) (by decide +kernel), List.mem_of_getElem? (i := 1087) (by decide +kernel), List.mem_of_getElem? (i := 1088) (by decide +kernel)⟩
theorem lw_p68 : lw_okq (⟨"KnockPipesModel", "worst", "()I"⟩, 26) := ⟨⟨by decide +kernel, by decide +kernel⟩, List.mem_of_getElem? (i := 771) (by decide +kernel), List.mem_of_getElem? (i := 1091) (by decide +kernel), List.mem_of_getElem? (i := 1092) (by decide +kernel)⟩
theorem lw_p69 : lw_okq (⟨"KnockPipesModel", "harmOf", "(I)I"⟩, 26) := ⟨⟨by decide +kernel, by decide +kernel⟩, List.mem_of_getElem? (i := 771) (by decide +kernel), List.mem_of_getElem? (i := 1095) (by decide +kernel), List.mem_of_getElem? (i := 1096) (by decide +kernel)⟩
theorem lw_p70 : lw_okq (⟨"KnockPipesModel", "growsActs", "(I)I"⟩, 26) := ⟨⟨by decide +kernel, by decide +kernel⟩, List.mem_of_getElem? (i := 771) (by decide +kernel), List.mem_of_getElem? (i := 1136) (by decide +kernel), List.mem_of_getElem? (i := 1137) (by decide +kernel)⟩
theorem lw_p71 : lw_okq (⟨"KnockPipesModel", "runs", "(I)V"⟩, 26) := ⟨⟨by decide +kernel, by decide +kernel⟩, List.mem_of_getElem? (i := 771) (by decide +kernel), List.mem_of_getElem? (i := 1143) (by decide +kernel), List.mem_of_getElem? (i := 1144) (by decide +kernel)⟩
theorem lw_p72 : lw_okq (⟨"KnockPipesModel", "plainGrows", "(I)I"⟩, 26) := ⟨⟨by decide +kernel, by decide +kernel⟩, List.mem_of_getElem? (i := 771) (by decide +kernel), List.mem_of_getElem? (i := 1147) (by decide +kernel), List.mem_of_getElem? (i := 1148) (by decide +kernel)⟩
theorem lw_p73 : lw_okq (⟨"KnockPipesModel", "strikesActs", "(I)I"⟩, 26) := ⟨⟨by decide +kernel, by decide +kernel⟩, List.mem_of_getElem? (i := 771) (by decide +kernel), List.mem_of_getElem? (i := 1151) (by decide +kernel), List.mem_of_getElem? (i := 1152) (by decide +kernel)⟩
theorem lw_p74 : lw_okq (⟨"KnockPipesModel", "plainStrikes", "(I)I"⟩, 26) := ⟨⟨by decide +kernel, by decide +kernel⟩, List.mem_of_getElem? (i := 771) (by decide +kernel), List.mem_of_getElem? (i := 1155) (by decide +kernel), List.mem_of_getElem? (i := 1156) (by decide +kernel)⟩
theorem lw_p75 : lw_okq (⟨"KnockPipesModel", "tellsActs", "(I)I"⟩, 26) := ⟨⟨by decide +kernel, by decide +kernel⟩, List.mem_of_getElem? (i := 771) (by decide +kernel), List.mem_of_getElem? (i := 1159) (by decide +kernel), List.mem_of_getElem? (i := 1160) (by decide +kernel)⟩
theorem lw_p76 : lw_okq (⟨"KnockPipesModel", "plainTells", "(I)I"⟩, 26) := ⟨⟨by decide +kernel, by decide +kernel⟩, List.mem_of_getElem? (i := 771) (by decide +kernel), List.mem_of_getElem? (i := 1163) (by decide +kernel), List.mem_of_getElem? (i := 1164) (by decide +kernel)⟩
def lw_privs_5 : List (MethodName × Nat) := [(⟨"KnockPipesModel", "heardOf", "(III)I"⟩, 26), (⟨"KnockPipesModel", "fitsOf", "(I)I"⟩, 26), (⟨"KnockPipesModel", "mostFitting", "()I"⟩, 26), (⟨"KnockPipesModel", "allFitting", "()I"⟩, 26), (⟨"KnockPipesModel", "worst", "()I"⟩, 26), (⟨"KnockPipesModel", "harmOf", "(I)I"⟩, 26), (⟨"KnockPipesModel", "growsActs", "(I)I"⟩, 26), (⟨"KnockPipesModel", "runs", "(I)V"⟩, 26), (⟨"KnockPipesModel", "plainGrows", "(I)I"⟩, 26), (⟨"KnockPipesModel", "strikesActs", "(I)I"⟩, 26), (⟨"KnockPipesModel", "plainStrikes", "(I)I"⟩, 26), (⟨"KnockPipesModel", "tellsActs", "(I)I"⟩, 26), (⟨"KnockPipesModel", "plainTells", "(I)I"⟩, 26)]
theorem lw_r5 : ∀ q ∈ lw_privs_5, lw_okq q := List.forall_mem_cons.mpr ⟨lw_p64, List.forall_mem_cons.mpr ⟨lw_p65, List.forall_mem_cons.mpr ⟨lw_p66, List.forall_mem_cons.mpr ⟨lw_p67, List.forall_mem_cons.mpr ⟨lw_p68, List.forall_mem_cons.mpr ⟨lw_p69, List.forall_mem_cons.mpr ⟨lw_p70, List.forall_mem_cons.mpr ⟨lw_p71, List.forall_mem_cons.mpr ⟨lw_p72, List.forall_mem_cons.mpr ⟨lw_p73, List.forall_mem_cons.mpr ⟨lw_p74, List.forall_mem_cons.mpr ⟨lw_p75, List.forall_mem_cons.mpr ⟨lw_p76, fun _ h => absurd h List.not_mem_nil⟩⟩⟩⟩⟩⟩⟩⟩⟩⟩⟩⟩⟩
def lw_privs : List (MethodName × Nat) := lw_privs_1 ++ (lw_privs_2 ++ (lw_privs_3 ++ (lw_privs_4 ++ (lw_privs_5))))
def lw_tbl : List Cond := k2_sels lw_privs ++ tables_1
theorem lw_privs_ok : ∀ q ∈ lw_privs, lw_okq q := by
  show ∀ q ∈ lw_privs_1 ++ (lw_privs_2 ++ (lw_privs_3 ++ (lw_privs_4 ++ (lw_privs_5)))), lw_okq q
  exact List.forall_mem_append.mpr ⟨lw_r1, List.forall_mem_append.mpr ⟨lw_r2, List.forall_mem_append.mpr ⟨lw_r3, List.forall_mem_append.mpr ⟨lw_r4, lw_r5⟩⟩⟩⟩
def RX0 : String := "KnockPipes$Acts"
def TX0 : u_T := fun k => match k with
  | 0 => ("KnockPipes$Acts", "trace", "[I", true)
  | 1 => ("KnockPipes$Acts", "ran", "I", false)
  | 2 => ("KnockPipes$Acts", "kind", "I", false)
  | 3 => ("KnockPipes$Acts", "number", "I", false)
  | _ => ("KnockPipes$Acts", "v", "I", false)
def tyX0 : Nat → FieldType := fun k => match k with
  | 0 => .array .int
  | 1 => .int
  | 2 => .int
  | 3 => .int
  | _ => .int
abbrev wsX00 : List Cond := u_ws RX0 TX0 5
theorem nmX0 : ∀ a, a < 5 → ∀ b, b < 5 → a ≠ b → (TX0 a).2.1 ≠ (TX0 b).2.1 := by decide +kernel
theorem tyX0_ok : ∀ k, k < 5 → parseFieldDescriptor (TX0 k).2.2.1 = some (tyX0 k) := by decide +kernel
abbrev cX0_init : ByteArray := prog_2_method_1_code
def yX0_init : MethodName := ⟨RX0, "<init>", "()V"⟩
abbrev cX0_start : ByteArray := prog_2_method_2_code
def yX0_start : MethodName := ⟨RX0, "start", "(LKnockPipes$Noises;III)I"⟩
abbrev cX0_send : ByteArray := prog_2_method_3_code
def yX0_send : MethodName := ⟨RX0, "send", "(IIII)I"⟩
abbrev cX0_run : ByteArray := prog_2_method_4_code
def yX0_run : MethodName := ⟨RX0, "run", "(IIII)I"⟩
def RX1 : String := "KnockPipes$Home"
def TX1 : u_T := fun k => match k with
  | 0 => ("KnockPipes$Home", "day", "[J", true)
  | 1 => ("KnockPipes$Home", "tape", "LKnockPipes$Tape;", true)
  | 2 => ("KnockPipes$Home", "house", "LKnockPipes$House;", true)
  | 3 => ("KnockPipes$Home", "noises", "LKnockPipes$Noises;", true)
  | 4 => ("KnockPipes$Home", "book", "LKnockPipes$Notebook;", true)
  | _ => ("KnockPipes$Home", "houses", "I", false)
def tyX1 : Nat → FieldType := fun k => match k with
  | 0 => .array .long
  | 1 => .object "KnockPipes$Tape"
  | 2 => .object "KnockPipes$House"
  | 3 => .object "KnockPipes$Noises"
  | 4 => .object "KnockPipes$Notebook"
  | _ => .int
abbrev wsX10 : List Cond := u_ws RX1 TX1 6
theorem nmX1 : ∀ a, a < 6 → ∀ b, b < 6 → a ≠ b → (TX1 a).2.1 ≠ (TX1 b).2.1 := by decide +kernel
theorem tyX1_ok : ∀ k, k < 6 → parseFieldDescriptor (TX1 k).2.2.1 = some (tyX1 k) := by decide +kernel
abbrev cX1_init : ByteArray := prog_3_method_1_code
def yX1_init : MethodName := ⟨RX1, "<init>", "()V"⟩
abbrev cX1_copy : ByteArray := prog_3_method_2_code
def yX1_copy : MethodName := ⟨RX1, "copy", "(LKnockPipes$Home;)V"⟩
def RX2 : String := "KnockPipes$House"
def TX2 : u_T := fun k => match k with
  | 0 => ("KnockPipes$House", "numbers", "[I", true)
  | 1 => ("KnockPipes$House", "codes", "[I", true)
  | 2 => ("KnockPipes$House", "grows", "[Z", true)
  | 3 => ("KnockPipes$House", "amount", "[I", true)
  | 4 => ("KnockPipes$House", "end", "[I", true)
  | 5 => ("KnockPipes$House", "clauses", "I", false)
  | _ => ("KnockPipes$House", "size", "I", false)
def tyX2 : Nat → FieldType := fun k => match k with
  | 0 => .array .int
  | 1 => .array .int
  | 2 => .array .boolean
  | 3 => .array .int
  | 4 => .array .int
  | 5 => .int
  | _ => .int
abbrev wsX20 : List Cond := u_ws RX2 TX2 7
theorem nmX2 : ∀ a, a < 7 → ∀ b, b < 7 → a ≠ b → (TX2 a).2.1 ≠ (TX2 b).2.1 := by decide +kernel
theorem tyX2_ok : ∀ k, k < 7 → parseFieldDescriptor (TX2 k).2.2.1 = some (tyX2 k) := by decide +kernel
abbrev cX2_init : ByteArray := prog_4_method_1_code
def yX2_init : MethodName := ⟨RX2, "<init>", "()V"⟩
abbrev cX2_empty : ByteArray := prog_4_method_2_code
def yX2_empty : MethodName := ⟨RX2, "empty", "()V"⟩
abbrev cX2_put : ByteArray := prog_4_method_3_code
def yX2_put : MethodName := ⟨RX2, "put", "(I)V"⟩
abbrev cX2_close : ByteArray := prog_4_method_4_code
def yX2_close : MethodName := ⟨RX2, "close", "(ZI)V"⟩
abbrev cX2_copy : ByteArray := prog_4_method_5_code
def yX2_copy : MethodName := ⟨RX2, "copy", "(LKnockPipes$House;)V"⟩
def RX3 : String := "KnockPipes$Noises"
def TX3 : u_T := fun k => match k with
  | 0 => ("KnockPipes$Noises", "kind", "[I", true)
  | 1 => ("KnockPipes$Noises", "place", "[I", true)
  | 2 => ("KnockPipes$Noises", "v", "[I", true)
  | 3 => ("KnockPipes$Noises", "loudness", "[I", true)
  | 4 => ("KnockPipes$Noises", "still", "I", false)
  | _ => ("KnockPipes$Noises", "count", "I", false)
def tyX3 : Nat → FieldType := fun k => match k with
  | 0 => .array .int
  | 1 => .array .int
  | 2 => .array .int
  | 3 => .array .int
  | 4 => .int
  | _ => .int
abbrev wsX30 : List Cond := u_ws RX3 TX3 6
theorem nmX3 : ∀ a, a < 6 → ∀ b, b < 6 → a ≠ b → (TX3 a).2.1 ≠ (TX3 b).2.1 := by decide +kernel
theorem tyX3_ok : ∀ k, k < 6 → parseFieldDescriptor (TX3 k).2.2.1 = some (tyX3 k) := by decide +kernel
abbrev cX3_init : ByteArray := prog_5_method_1_code
def yX3_init : MethodName := ⟨RX3, "<init>", "()V"⟩
abbrev cX3_has : ByteArray := prog_5_method_2_code
def yX3_has : MethodName := ⟨RX3, "has", "(I)Z"⟩
abbrev cX3_isLoose : ByteArray := prog_5_method_3_code
def yX3_isLoose : MethodName := ⟨RX3, "isLoose", "(I)Z"⟩
abbrev cX3_loose : ByteArray := prog_5_method_4_code
def yX3_loose : MethodName := ⟨RX3, "loose", "()I"⟩
abbrev cX3_add : ByteArray := prog_5_method_5_code
def yX3_add : MethodName := ⟨RX3, "add", "(IIII)I"⟩
abbrev cX3_copy : ByteArray := prog_5_method_6_code
def yX3_copy : MethodName := ⟨RX3, "copy", "(LKnockPipes$Noises;)V"⟩
def RX4 : String := "KnockPipes$Notebook"
def TX4 : u_T := fun k => match k with
  | 0 => ("KnockPipes$Notebook", "place", "[I", true)
  | 1 => ("KnockPipes$Notebook", "minute", "[I", true)
  | 2 => ("KnockPipes$Notebook", "n", "[I", true)
  | _ => ("KnockPipes$Notebook", "count", "I", false)
def tyX4 : Nat → FieldType := fun k => match k with
  | 0 => .array .int
  | 1 => .array .int
  | 2 => .array .int
  | _ => .int
abbrev wsX40 : List Cond := u_ws RX4 TX4 4
theorem nmX4 : ∀ a, a < 4 → ∀ b, b < 4 → a ≠ b → (TX4 a).2.1 ≠ (TX4 b).2.1 := by decide +kernel
theorem tyX4_ok : ∀ k, k < 4 → parseFieldDescriptor (TX4 k).2.2.1 = some (tyX4 k) := by decide +kernel
abbrev cX4_init : ByteArray := prog_6_method_1_code
def yX4_init : MethodName := ⟨RX4, "<init>", "()V"⟩
abbrev cX4_add : ByteArray := prog_6_method_2_code
def yX4_add : MethodName := ⟨RX4, "add", "(III)I"⟩
abbrev cX4_copy : ByteArray := prog_6_method_3_code
def yX4_copy : MethodName := ⟨RX4, "copy", "(LKnockPipes$Notebook;)V"⟩
def RX5 : String := "KnockPipes$Reader"
def TX5 : u_T := fun k => match k with
  | 0 => ("KnockPipes$Reader", "draft", "LKnockPipes$House;", true)
  | 1 => ("KnockPipes$Reader", "tape", "LKnockPipes$Tape;", true)
  | _ => ("KnockPipes$Reader", "at", "I", false)
def tyX5 : Nat → FieldType := fun k => match k with
  | 0 => .object "KnockPipes$House"
  | 1 => .object "KnockPipes$Tape"
  | _ => .int
abbrev wsX50 : List Cond := u_ws RX5 TX5 3
theorem nmX5 : ∀ a, a < 3 → ∀ b, b < 3 → a ≠ b → (TX5 a).2.1 ≠ (TX5 b).2.1 := by decide +kernel
theorem tyX5_ok : ∀ k, k < 3 → parseFieldDescriptor (TX5 k).2.2.1 = some (tyX5 k) := by decide +kernel
abbrev cX5_init : ByteArray := prog_7_method_1_code
def yX5_init : MethodName := ⟨RX5, "<init>", "()V"⟩
abbrev cX5_reads : ByteArray := prog_7_method_2_code
def yX5_reads : MethodName := ⟨RX5, "reads", "(LKnockPipes$Tape;)Z"⟩
abbrev cX5_peek : ByteArray := prog_7_method_3_code
def yX5_peek : MethodName := ⟨RX5, "peek", "()I"⟩
abbrev cX5_eats : ByteArray := prog_7_method_4_code
def yX5_eats : MethodName := ⟨RX5, "eats", "(C)Z"⟩
abbrev cX5_clause : ByteArray := prog_7_method_5_code
def yX5_clause : MethodName := ⟨RX5, "clause", "()Z"⟩
abbrev cX5_word : ByteArray := prog_7_method_6_code
def yX5_word : MethodName := ⟨RX5, "word", "()I"⟩
abbrev cX5_digit : ByteArray := prog_7_method_7_code
def yX5_digit : MethodName := ⟨RX5, "digit", "()I"⟩
abbrev cX5_number : ByteArray := prog_7_method_8_code
def yX5_number : MethodName := ⟨RX5, "number", "()I"⟩
abbrev cX5_either : ByteArray := prog_7_method_9_code
def yX5_either : MethodName := ⟨RX5, "either", "(I)Z"⟩
abbrev cX5_both : ByteArray := prog_7_method_10_code
def yX5_both : MethodName := ⟨RX5, "both", "(I)Z"⟩
abbrev cX5_factor : ByteArray := prog_7_method_11_code
def yX5_factor : MethodName := ⟨RX5, "factor", "(I)Z"⟩
abbrev cX5_test : ByteArray := prog_7_method_12_code
def yX5_test : MethodName := ⟨RX5, "test", "()Z"⟩
abbrev cX5_oneOf : ByteArray := prog_7_method_13_code
def yX5_oneOf : MethodName := ⟨RX5, "oneOf", "(Ljava/lang/String;)I"⟩
def RX6 : String := "KnockPipes$Sounds"
def TX6 : u_T := fun k => match k with
  | 0 => ("KnockPipes$Sounds", "warmth", "[I", true)
  | 1 => ("KnockPipes$Sounds", "growth", "[I", true)
  | 2 => ("KnockPipes$Sounds", "hold", "[I", true)
  | 3 => ("KnockPipes$Sounds", "knocks", "[I", true)
  | 4 => ("KnockPipes$Sounds", "bare", "[J", true)
  | _ => ("KnockPipes$Sounds", "stack", "[J", true)
def tyX6 : Nat → FieldType := fun k => match k with
  | 0 => .array .int
  | 1 => .array .int
  | 2 => .array .int
  | 3 => .array .int
  | 4 => .array .long
  | _ => .array .long
abbrev wsX60 : List Cond := u_ws RX6 TX6 6
theorem nmX6 : ∀ a, a < 6 → ∀ b, b < 6 → a ≠ b → (TX6 a).2.1 ≠ (TX6 b).2.1 := by decide +kernel
theorem tyX6_ok : ∀ k, k < 6 → parseFieldDescriptor (TX6 k).2.2.1 = some (tyX6 k) := by decide +kernel
abbrev cX6_init : ByteArray := prog_8_method_1_code
def yX6_init : MethodName := ⟨RX6, "<init>", "()V"⟩
abbrev cX6_lengthOf : ByteArray := prog_8_method_2_code
def yX6_lengthOf : MethodName := ⟨RX6, "lengthOf", "(II)I"⟩
abbrev cX6_holdOf : ByteArray := prog_8_method_3_code
def yX6_holdOf : MethodName := ⟨RX6, "holdOf", "(II)I"⟩
abbrev cX6_knocksOf : ByteArray := prog_8_method_4_code
def yX6_knocksOf : MethodName := ⟨RX6, "knocksOf", "(II)I"⟩
abbrev cX6_knockingOf : ByteArray := prog_8_method_5_code
def yX6_knockingOf : MethodName := ⟨RX6, "knockingOf", "(I)J"⟩
abbrev cX6_read : ByteArray := prog_8_method_6_code
def yX6_read : MethodName := ⟨RX6, "read", "(LKnockPipes$House;LKnockPipes$Noises;I)V"⟩
abbrev cX6_addTo : ByteArray := prog_8_method_7_code
def yX6_addTo : MethodName := ⟨RX6, "addTo", "([IIJI)V"⟩
abbrev cX6_holds : ByteArray := prog_8_method_8_code
def yX6_holds : MethodName := ⟨RX6, "holds", "(LKnockPipes$House;IILKnockPipes$Noises;I)J"⟩
abbrev cX6_minutesOf : ByteArray := prog_8_method_9_code
def yX6_minutesOf : MethodName := ⟨RX6, "minutesOf", "(ILKnockPipes$Noises;I)J"⟩
abbrev cX6_warm : ByteArray := prog_8_method_10_code
def yX6_warm : MethodName := ⟨RX6, "warm", "(LKnockPipes$House;J)V"⟩
abbrev cX6_knock : ByteArray := prog_8_method_11_code
def yX6_knock : MethodName := ⟨RX6, "knock", "(LKnockPipes$Noises;IJJ)V"⟩
abbrev cX6_mark : ByteArray := prog_8_method_12_code
def yX6_mark : MethodName := ⟨RX6, "mark", "(IJIJ)V"⟩
abbrev cX6_lasting : ByteArray := prog_8_method_13_code
def yX6_lasting : MethodName := ⟨RX6, "lasting", "(JI)J"⟩
abbrev cX6_tick : ByteArray := prog_8_method_14_code
def yX6_tick : MethodName := ⟨RX6, "tick", "(IZ)V"⟩
def RX7 : String := "KnockPipes$Tape"
def TX7 : u_T := fun k => match k with
  | 0 => ("KnockPipes$Tape", "bytes", "[I", true)
  | _ => ("KnockPipes$Tape", "size", "I", false)
def tyX7 : Nat → FieldType := fun k => match k with
  | 0 => .array .int
  | _ => .int
abbrev wsX70 : List Cond := u_ws RX7 TX7 2
theorem nmX7 : ∀ a, a < 2 → ∀ b, b < 2 → a ≠ b → (TX7 a).2.1 ≠ (TX7 b).2.1 := by decide +kernel
theorem tyX7_ok : ∀ k, k < 2 → parseFieldDescriptor (TX7 k).2.2.1 = some (tyX7 k) := by decide +kernel
abbrev cX7_init : ByteArray := prog_9_method_1_code
def yX7_init : MethodName := ⟨RX7, "<init>", "()V"⟩
abbrev cX7_add : ByteArray := prog_9_method_2_code
def yX7_add : MethodName := ⟨RX7, "add", "(I)V"⟩
abbrev cX7_copy : ByteArray := prog_9_method_3_code
def yX7_copy : MethodName := ⟨RX7, "copy", "(LKnockPipes$Tape;)V"⟩
def RX8 : String := "KnockPipes$Test"
def TX8 : u_T := fun k => match k with
  | _ => ("", "", "", false)
def tyX8 : Nat → FieldType := fun k => match k with
  | _ => .int
abbrev wsX80 : List Cond := u_ws RX8 TX8 0
theorem nmX8 : ∀ a, a < 0 → ∀ b, b < 0 → a ≠ b → (TX8 a).2.1 ≠ (TX8 b).2.1 := by decide +kernel
theorem tyX8_ok : ∀ k, k < 0 → parseFieldDescriptor (TX8 k).2.2.1 = some (tyX8 k) := by decide +kernel
abbrev cX8_code : ByteArray := prog_10_method_2_code
def yX8_code : MethodName := ⟨RX8, "code", "(III)I"⟩
abbrev cX8_subject : ByteArray := prog_10_method_3_code
def yX8_subject : MethodName := ⟨RX8, "subject", "(I)I"⟩
abbrev cX8_sign : ByteArray := prog_10_method_4_code
def yX8_sign : MethodName := ⟨RX8, "sign", "(I)I"⟩
abbrev cX8_number : ByteArray := prog_10_method_5_code
def yX8_number : MethodName := ⟨RX8, "number", "(I)I"⟩
abbrev cX8_holds : ByteArray := prog_10_method_6_code
def yX8_holds : MethodName := ⟨RX8, "holds", "(II)Z"⟩
abbrev cX8_minutes : ByteArray := prog_10_method_7_code
def yX8_minutes : MethodName := ⟨RX8, "minutes", "(I)J"⟩
def RX9 : String := "KnockPipes"
def TX9 : u_T := fun k => match k with
  | 0 => ("KnockPipes", "now", "LKnockPipes$Home;", true)
  | 1 => ("KnockPipes", "kept", "LKnockPipes$Home;", true)
  | 2 => ("KnockPipes", "imaged", "Z", false)
  | 3 => ("KnockPipes", "reader", "LKnockPipes$Reader;", true)
  | 4 => ("KnockPipes", "sounds", "LKnockPipes$Sounds;", true)
  | 5 => ("KnockPipes", "acts", "LKnockPipes$Acts;", true)
  | 6 => ("KnockPipes", "settled", "Z", false)
  | _ => ("KnockPipes", "shares", "[I", true)
def tyX9 : Nat → FieldType := fun k => match k with
  | 0 => .object "KnockPipes$Home"
  | 1 => .object "KnockPipes$Home"
  | 2 => .boolean
  | 3 => .object "KnockPipes$Reader"
  | 4 => .object "KnockPipes$Sounds"
  | 5 => .object "KnockPipes$Acts"
  | 6 => .boolean
  | _ => .array .int
abbrev wsX90 : List Cond := u_ws RX9 TX9 8
theorem nmX9 : ∀ a, a < 8 → ∀ b, b < 8 → a ≠ b → (TX9 a).2.1 ≠ (TX9 b).2.1 := by decide +kernel
theorem tyX9_ok : ∀ k, k < 8 → parseFieldDescriptor (TX9 k).2.2.1 = some (tyX9 k) := by decide +kernel
abbrev cX9_init : ByteArray := prog_1_method_1_code
def yX9_init : MethodName := ⟨RX9, "<init>", "()V"⟩
abbrev cX9_day : ByteArray := prog_1_method_2_code
def yX9_day : MethodName := ⟨RX9, "day", "(IJ)I"⟩
abbrev cX9_feed : ByteArray := prog_1_method_3_code
def yX9_feed : MethodName := ⟨RX9, "feed", "(JI)I"⟩
abbrev cX9_house : ByteArray := prog_1_method_4_code
def yX9_house : MethodName := ⟨RX9, "house", "()I"⟩
abbrev cX9_told : ByteArray := prog_1_method_5_code
def yX9_told : MethodName := ⟨RX9, "told", "(I)I"⟩
abbrev cX9_warmth : ByteArray := prog_1_method_6_code
def yX9_warmth : MethodName := ⟨RX9, "warmth", "(I)I"⟩
abbrev cX9_noise : ByteArray := prog_1_method_7_code
def yX9_noise : MethodName := ⟨RX9, "noise", "(IIII)I"⟩
abbrev cX9_of : ByteArray := prog_1_method_8_code
def yX9_of : MethodName := ⟨RX9, "of", "(II)I"⟩
abbrev cX9_still : ByteArray := prog_1_method_9_code
def yX9_still : MethodName := ⟨RX9, "still", "(IZ)I"⟩
abbrev cX9_knocks : ByteArray := prog_1_method_10_code
def yX9_knocks : MethodName := ⟨RX9, "knocks", "(III)I"⟩
abbrev cX9_loud : ByteArray := prog_1_method_11_code
def yX9_loud : MethodName := ⟨RX9, "loud", "(III)I"⟩
abbrev cX9_heard : ByteArray := prog_1_method_12_code
def yX9_heard : MethodName := ⟨RX9, "heard", "(II)I"⟩
abbrev cX9_seems : ByteArray := prog_1_method_13_code
def yX9_seems : MethodName := ⟨RX9, "seems", "(I)I"⟩
abbrev cX9_note : ByteArray := prog_1_method_14_code
def yX9_note : MethodName := ⟨RX9, "note", "(III)I"⟩
abbrev cX9_clear : ByteArray := prog_1_method_15_code
def yX9_clear : MethodName := ⟨RX9, "clear", "()I"⟩
abbrev cX9_fits : ByteArray := prog_1_method_16_code
def yX9_fits : MethodName := ⟨RX9, "fits", "(I)I"⟩
abbrev cX9_odds : ByteArray := prog_1_method_17_code
def yX9_odds : MethodName := ⟨RX9, "odds", "(II)I"⟩
abbrev cX9_which : ByteArray := prog_1_method_18_code
def yX9_which : MethodName := ⟨RX9, "which", "(I)I"⟩
abbrev cX9_next : ByteArray := prog_1_method_19_code
def yX9_next : MethodName := ⟨RX9, "next", "()I"⟩
abbrev cX9_least : ByteArray := prog_1_method_20_code
def yX9_least : MethodName := ⟨RX9, "least", "(II)I"⟩
abbrev cX9_eased : ByteArray := prog_1_method_21_code
def yX9_eased : MethodName := ⟨RX9, "eased", "(II)I"⟩
abbrev cX9_parted : ByteArray := prog_1_method_22_code
def yX9_parted : MethodName := ⟨RX9, "parted", "(II)J"⟩
abbrev cX9_quiet : ByteArray := prog_1_method_23_code
def yX9_quiet : MethodName := ⟨RX9, "quiet", "(I)I"⟩
abbrev cX9_moved : ByteArray := prog_1_method_24_code
def yX9_moved : MethodName := ⟨RX9, "moved", "(II)I"⟩
abbrev cX9_older : ByteArray := prog_1_method_25_code
def yX9_older : MethodName := ⟨RX9, "older", "()I"⟩
abbrev cX9_harm : ByteArray := prog_1_method_26_code
def yX9_harm : MethodName := ⟨RX9, "harm", "(I)I"⟩
abbrev cX9_act : ByteArray := prog_1_method_27_code
def yX9_act : MethodName := ⟨RX9, "act", "(III)I"⟩
abbrev cX9_trace : ByteArray := prog_1_method_28_code
def yX9_trace : MethodName := ⟨RX9, "trace", "(I)I"⟩
abbrev cX9_as : ByteArray := prog_1_method_29_code
def yX9_as : MethodName := ⟨RX9, "as", "(II)I"⟩
abbrev cX9_image : ByteArray := prog_1_method_30_code
def yX9_image : MethodName := ⟨RX9, "image", "()I"⟩
abbrev cX9_undo : ByteArray := prog_1_method_31_code
def yX9_undo : MethodName := ⟨RX9, "undo", "()I"⟩
abbrev cX9_count : ByteArray := prog_1_method_32_code
def yX9_count : MethodName := ⟨RX9, "count", "(I)I"⟩
abbrev cX9_isMinute : ByteArray := prog_1_method_33_code
def yX9_isMinute : MethodName := ⟨RX9, "isMinute", "(I)Z"⟩
abbrev cX9_isPlace : ByteArray := prog_1_method_34_code
def yX9_isPlace : MethodName := ⟨RX9, "isPlace", "(I)Z"⟩
abbrev cX9_isKind : ByteArray := prog_1_method_35_code
def yX9_isKind : MethodName := ⟨RX9, "isKind", "(I)Z"⟩
abbrev cX9_isUnder : ByteArray := prog_1_method_36_code
def yX9_isUnder : MethodName := ⟨RX9, "isUnder", "(II)Z"⟩
abbrev cX9_greatestShared : ByteArray := prog_1_method_37_code
def yX9_greatestShared : MethodName := ⟨RX9, "greatestShared", "(II)I"⟩
abbrev cX9_settle : ByteArray := prog_1_method_38_code
def yX9_settle : MethodName := ⟨RX9, "settle", "()V"⟩
abbrev cX9_ring : ByteArray := prog_1_method_39_code
def yX9_ring : MethodName := ⟨RX9, "ring", "(JJJ)V"⟩
abbrev cX9_loudOf : ByteArray := prog_1_method_40_code
def yX9_loudOf : MethodName := ⟨RX9, "loudOf", "(IIII)I"⟩
abbrev cX9_heardOf : ByteArray := prog_1_method_41_code
def yX9_heardOf : MethodName := ⟨RX9, "heardOf", "(IIII)I"⟩
abbrev cX9_heardAlone : ByteArray := prog_1_method_42_code
def yX9_heardAlone : MethodName := ⟨RX9, "heardAlone", "(III)I"⟩
abbrev cX9_heardInDayOf : ByteArray := prog_1_method_43_code
def yX9_heardInDayOf : MethodName := ⟨RX9, "heardInDayOf", "(II)I"⟩
abbrev cX9_heardAt : ByteArray := prog_1_method_44_code
def yX9_heardAt : MethodName := ⟨RX9, "heardAt", "(II)I"⟩
abbrev cX9_heardInDay : ByteArray := prog_1_method_45_code
def yX9_heardInDay : MethodName := ⟨RX9, "heardInDay", "(I)I"⟩
abbrev cX9_loudOfAll : ByteArray := prog_1_method_46_code
def yX9_loudOfAll : MethodName := ⟨RX9, "loudOfAll", "(II)I"⟩
abbrev cX9_fittingRows : ByteArray := prog_1_method_47_code
def yX9_fittingRows : MethodName := ⟨RX9, "fittingRows", "(I)I"⟩
abbrev cX9_mostFitting : ByteArray := prog_1_method_48_code
def yX9_mostFitting : MethodName := ⟨RX9, "mostFitting", "()I"⟩
abbrev cX9_allFitting : ByteArray := prog_1_method_49_code
def yX9_allFitting : MethodName := ⟨RX9, "allFitting", "()I"⟩
abbrev cX9_fitsAllRows : ByteArray := prog_1_method_50_code
def yX9_fitsAllRows : MethodName := ⟨RX9, "fitsAllRows", "(I)Z"⟩
abbrev cX9_shareOf : ByteArray := prog_1_method_51_code
def yX9_shareOf : MethodName := ⟨RX9, "shareOf", "(II)I"⟩
abbrev cX9_worst : ByteArray := prog_1_method_52_code
def yX9_worst : MethodName := ⟨RX9, "worst", "()I"⟩
abbrev cX9_harmOf : ByteArray := prog_1_method_53_code
def yX9_harmOf : MethodName := ⟨RX9, "harmOf", "(I)I"⟩
abbrev cX9_mostAlike : ByteArray := prog_1_method_54_code
def yX9_mostAlike : MethodName := ⟨RX9, "mostAlike", "(II)I"⟩
abbrev cX9_rowsHeard : ByteArray := prog_1_method_55_code
def yX9_rowsHeard : MethodName := ⟨RX9, "rowsHeard", "()I"⟩
def RX10 : String := "KnockPipesModel"
def TX10 : u_T := fun k => match k with
  | 0 => ("KnockPipesModel", "thrown", "I", false)
  | 1 => ("KnockPipesModel", "s", "[I", true)
  | 2 => ("KnockPipesModel", "image", "[I", true)
  | 3 => ("KnockPipesModel", "hasImage", "Z", false)
  | 4 => ("KnockPipesModel", "act", "I", false)
  | 5 => ("KnockPipesModel", "spot", "I", false)
  | 6 => ("KnockPipesModel", "end", "I", false)
  | 7 => ("KnockPipesModel", "isWrong", "Z", false)
  | 8 => ("KnockPipesModel", "open", "I", false)
  | 9 => ("KnockPipesModel", "by", "[I", true)
  | 10 => ("KnockPipesModel", "truths", "[Z", true)
  | 11 => ("KnockPipesModel", "grows", "I", false)
  | 12 => ("KnockPipesModel", "holds", "I", false)
  | 13 => ("KnockPipesModel", "anyHolds", "Z", false)
  | 14 => ("KnockPipesModel", "warmths", "[I", true)
  | 15 => ("KnockPipesModel", "beats", "[I", true)
  | 16 => ("KnockPipesModel", "isQuietDay", "Z", false)
  | 17 => ("KnockPipesModel", "late", "I", false)
  | 18 => ("KnockPipesModel", "easing", "I", false)
  | 19 => ("KnockPipesModel", "heardThere", "[I", true)
  | 20 => ("KnockPipesModel", "heardIn", "[I", true)
  | 21 => ("KnockPipesModel", "bodies", "[I", true)
  | 22 => ("KnockPipesModel", "ran", "I", false)
  | 23 => ("KnockPipesModel", "kind", "I", false)
  | 24 => ("KnockPipesModel", "number", "I", false)
  | _ => ("KnockPipesModel", "tellsV", "I", false)
def tyX10 : Nat → FieldType := fun k => match k with
  | 0 => .int
  | 1 => .array .int
  | 2 => .array .int
  | 3 => .boolean
  | 4 => .int
  | 5 => .int
  | 6 => .int
  | 7 => .boolean
  | 8 => .int
  | 9 => .array .int
  | 10 => .array .boolean
  | 11 => .int
  | 12 => .int
  | 13 => .boolean
  | 14 => .array .int
  | 15 => .array .int
  | 16 => .boolean
  | 17 => .int
  | 18 => .int
  | 19 => .array .int
  | 20 => .array .int
  | 21 => .array .int
  | 22 => .int
  | 23 => .int
  | 24 => .int
  | _ => .int
abbrev wsX100 : List Cond := u_ws RX10 TX10 26
theorem nmX10 : ∀ a, a < 26 → ∀ b, b < 26 → a ≠ b → (TX10 a).2.1 ≠ (TX10 b).2.1 := by decide +kernel
theorem tyX10_ok : ∀ k, k < 26 → parseFieldDescriptor (TX10 k).2.2.1 = some (tyX10 k) := by decide +kernel
abbrev cX10_init : ByteArray := prog_12_method_1_code
def yX10_init : MethodName := ⟨RX10, "<init>", "()V"⟩
abbrev cX10_in : ByteArray := prog_12_method_3_code
def yX10_in : MethodName := ⟨RX10, "in", "(III)Z"⟩
abbrev cX10_size : ByteArray := prog_12_method_4_code
def yX10_size : MethodName := ⟨RX10, "size", "(I)I"⟩
abbrev cX10_isNoise : ByteArray := prog_12_method_5_code
def yX10_isNoise : MethodName := ⟨RX10, "isNoise", "(I)Z"⟩
abbrev cX10_isPlace : ByteArray := prog_12_method_6_code
def yX10_isPlace : MethodName := ⟨RX10, "isPlace", "(I)Z"⟩
abbrev cX10_isMinute : ByteArray := prog_12_method_7_code
def yX10_isMinute : MethodName := ⟨RX10, "isMinute", "(I)Z"⟩
abbrev cX10_day : ByteArray := prog_12_method_8_code
def yX10_day : MethodName := ⟨RX10, "day", "(IJ)I"⟩
abbrev cX10_feed : ByteArray := prog_12_method_9_code
def yX10_feed : MethodName := ⟨RX10, "feed", "(JI)I"⟩
abbrev cX10_here : ByteArray := prog_12_method_10_code
def yX10_here : MethodName := ⟨RX10, "here", "()I"⟩
abbrev cX10_must : ByteArray := prog_12_method_11_code
def yX10_must : MethodName := ⟨RX10, "must", "(I)V"⟩
abbrev cX10_spells : ByteArray := prog_12_method_12_code
def yX10_spells : MethodName := ⟨RX10, "spells", "(Ljava/lang/String;)V"⟩
abbrev cX10_figures : ByteArray := prog_12_method_13_code
def yX10_figures : MethodName := ⟨RX10, "figures", "()I"⟩
abbrev cX10_among : ByteArray := prog_12_method_14_code
def yX10_among : MethodName := ⟨RX10, "among", "(Ljava/lang/String;)I"⟩
abbrev cX10_emits : ByteArray := prog_12_method_15_code
def yX10_emits : MethodName := ⟨RX10, "emits", "(I)V"⟩
abbrev cX10_factor : ByteArray := prog_12_method_16_code
def yX10_factor : MethodName := ⟨RX10, "factor", "()V"⟩
abbrev cX10_every : ByteArray := prog_12_method_17_code
def yX10_every : MethodName := ⟨RX10, "every", "()V"⟩
abbrev cX10_some : ByteArray := prog_12_method_18_code
def yX10_some : MethodName := ⟨RX10, "some", "()V"⟩
abbrev cX10_much : ByteArray := prog_12_method_19_code
def yX10_much : MethodName := ⟨RX10, "much", "(ILjava/lang/String;)V"⟩
abbrev cX10_tellsHere : ByteArray := prog_12_method_20_code
def yX10_tellsHere : MethodName := ⟨RX10, "tellsHere", "(ILjava/lang/String;)V"⟩
abbrev cX10_clauseOfH : ByteArray := prog_12_method_21_code
def yX10_clauseOfH : MethodName := ⟨RX10, "clauseOfH", "()V"⟩
abbrev cX10_clauseHere : ByteArray := prog_12_method_22_code
def yX10_clauseHere : MethodName := ⟨RX10, "clauseHere", "()V"⟩
abbrev cX10_house : ByteArray := prog_12_method_23_code
def yX10_house : MethodName := ⟨RX10, "house", "()I"⟩
abbrev cX10_tellsOf : ByteArray := prog_12_method_24_code
def yX10_tellsOf : MethodName := ⟨RX10, "tellsOf", "(II)I"⟩
abbrev cX10_told : ByteArray := prog_12_method_25_code
def yX10_told : MethodName := ⟨RX10, "told", "(I)I"⟩
abbrev cX10_looksAt : ByteArray := prog_12_method_26_code
def yX10_looksAt : MethodName := ⟨RX10, "looksAt", "(II)V"⟩
abbrev cX10_isOn : ByteArray := prog_12_method_27_code
def yX10_isOn : MethodName := ⟨RX10, "isOn", "(II)Z"⟩
abbrev cX10_warms : ByteArray := prog_12_method_28_code
def yX10_warms : MethodName := ⟨RX10, "warms", "()V"⟩
abbrev cX10_lengthOf : ByteArray := prog_12_method_29_code
def yX10_lengthOf : MethodName := ⟨RX10, "lengthOf", "(II)I"⟩
abbrev cX10_ticks : ByteArray := prog_12_method_30_code
def yX10_ticks : MethodName := ⟨RX10, "ticks", "(I)V"⟩
abbrev cX10_strikesBy : ByteArray := prog_12_method_31_code
def yX10_strikesBy : MethodName := ⟨RX10, "strikesBy", "(I)V"⟩
abbrev cX10_hums : ByteArray := prog_12_method_32_code
def yX10_hums : MethodName := ⟨RX10, "hums", "(IZ)V"⟩
abbrev cX10_plainly : ByteArray := prog_12_method_33_code
def yX10_plainly : MethodName := ⟨RX10, "plainly", "(I)V"⟩
abbrev cX10_goesOf : ByteArray := prog_12_method_34_code
def yX10_goesOf : MethodName := ⟨RX10, "goesOf", "(I)V"⟩
abbrev cX10_goes : ByteArray := prog_12_method_35_code
def yX10_goes : MethodName := ⟨RX10, "goes", "()V"⟩
abbrev cX10_warmth : ByteArray := prog_12_method_36_code
def yX10_warmth : MethodName := ⟨RX10, "warmth", "(I)I"⟩
abbrev cX10_noise : ByteArray := prog_12_method_37_code
def yX10_noise : MethodName := ⟨RX10, "noise", "(IIII)I"⟩
abbrev cX10_of : ByteArray := prog_12_method_38_code
def yX10_of : MethodName := ⟨RX10, "of", "(II)I"⟩
abbrev cX10_still : ByteArray := prog_12_method_39_code
def yX10_still : MethodName := ⟨RX10, "still", "(IZ)I"⟩
abbrev cX10_isStill : ByteArray := prog_12_method_40_code
def yX10_isStill : MethodName := ⟨RX10, "isStill", "(I)Z"⟩
abbrev cX10_knocks : ByteArray := prog_12_method_41_code
def yX10_knocks : MethodName := ⟨RX10, "knocks", "(III)I"⟩
abbrev cX10_isStruck : ByteArray := prog_12_method_42_code
def yX10_isStruck : MethodName := ⟨RX10, "isStruck", "(I)Z"⟩
abbrev cX10_loudOf : ByteArray := prog_12_method_43_code
def yX10_loudOf : MethodName := ⟨RX10, "loudOf", "(III)I"⟩
abbrev cX10_loud : ByteArray := prog_12_method_44_code
def yX10_loud : MethodName := ⟨RX10, "loud", "(III)I"⟩
abbrev cX10_moving : ByteArray := prog_12_method_45_code
def yX10_moving : MethodName := ⟨RX10, "moving", "()I"⟩
abbrev cX10_heardOf : ByteArray := prog_12_method_46_code
def yX10_heardOf : MethodName := ⟨RX10, "heardOf", "(III)I"⟩
abbrev cX10_heardAll : ByteArray := prog_12_method_47_code
def yX10_heardAll : MethodName := ⟨RX10, "heardAll", "(II)I"⟩
abbrev cX10_heard : ByteArray := prog_12_method_48_code
def yX10_heard : MethodName := ⟨RX10, "heard", "(II)I"⟩
abbrev cX10_seems : ByteArray := prog_12_method_49_code
def yX10_seems : MethodName := ⟨RX10, "seems", "(I)I"⟩
abbrev cX10_note : ByteArray := prog_12_method_50_code
def yX10_note : MethodName := ⟨RX10, "note", "(III)I"⟩
abbrev cX10_clear : ByteArray := prog_12_method_51_code
def yX10_clear : MethodName := ⟨RX10, "clear", "()I"⟩
abbrev cX10_fitsOf : ByteArray := prog_12_method_52_code
def yX10_fitsOf : MethodName := ⟨RX10, "fitsOf", "(I)I"⟩
abbrev cX10_count1 : ByteArray := prog_12_method_53_code
def yX10_count1 : MethodName := ⟨RX10, "count1", "(I)I"⟩
abbrev cX10_fits : ByteArray := prog_12_method_54_code
def yX10_fits : MethodName := ⟨RX10, "fits", "(I)I"⟩
abbrev cX10_divisor : ByteArray := prog_12_method_55_code
def yX10_divisor : MethodName := ⟨RX10, "divisor", "(II)I"⟩
abbrev cX10_odds : ByteArray := prog_12_method_56_code
def yX10_odds : MethodName := ⟨RX10, "odds", "(II)I"⟩
abbrev cX10_mostFitting : ByteArray := prog_12_method_57_code
def yX10_mostFitting : MethodName := ⟨RX10, "mostFitting", "()I"⟩
abbrev cX10_allFitting : ByteArray := prog_12_method_58_code
def yX10_allFitting : MethodName := ⟨RX10, "allFitting", "()I"⟩
abbrev cX10_harmOf : ByteArray := prog_12_method_59_code
def yX10_harmOf : MethodName := ⟨RX10, "harmOf", "(I)I"⟩
abbrev cX10_worst : ByteArray := prog_12_method_60_code
def yX10_worst : MethodName := ⟨RX10, "worst", "()I"⟩
abbrev cX10_which : ByteArray := prog_12_method_61_code
def yX10_which : MethodName := ⟨RX10, "which", "(I)I"⟩
abbrev cX10_next : ByteArray := prog_12_method_62_code
def yX10_next : MethodName := ⟨RX10, "next", "()I"⟩
abbrev cX10_least : ByteArray := prog_12_method_63_code
def yX10_least : MethodName := ⟨RX10, "least", "(II)I"⟩
abbrev cX10_eased : ByteArray := prog_12_method_64_code
def yX10_eased : MethodName := ⟨RX10, "eased", "(II)I"⟩
abbrev cX10_parted : ByteArray := prog_12_method_65_code
def yX10_parted : MethodName := ⟨RX10, "parted", "(II)J"⟩
abbrev cX10_quiet : ByteArray := prog_12_method_66_code
def yX10_quiet : MethodName := ⟨RX10, "quiet", "(I)I"⟩
abbrev cX10_moved : ByteArray := prog_12_method_67_code
def yX10_moved : MethodName := ⟨RX10, "moved", "(II)I"⟩
abbrev cX10_older : ByteArray := prog_12_method_68_code
def yX10_older : MethodName := ⟨RX10, "older", "()I"⟩
abbrev cX10_harm : ByteArray := prog_12_method_69_code
def yX10_harm : MethodName := ⟨RX10, "harm", "(I)I"⟩
abbrev cX10_runs : ByteArray := prog_12_method_70_code
def yX10_runs : MethodName := ⟨RX10, "runs", "(I)V"⟩
abbrev cX10_isUnder : ByteArray := prog_12_method_71_code
def yX10_isUnder : MethodName := ⟨RX10, "isUnder", "(II)Z"⟩
abbrev cX10_plainGrows : ByteArray := prog_12_method_72_code
def yX10_plainGrows : MethodName := ⟨RX10, "plainGrows", "(I)I"⟩
abbrev cX10_growsActs : ByteArray := prog_12_method_73_code
def yX10_growsActs : MethodName := ⟨RX10, "growsActs", "(I)I"⟩
abbrev cX10_plainStrikes : ByteArray := prog_12_method_74_code
def yX10_plainStrikes : MethodName := ⟨RX10, "plainStrikes", "(I)I"⟩
abbrev cX10_strikesActs : ByteArray := prog_12_method_75_code
def yX10_strikesActs : MethodName := ⟨RX10, "strikesActs", "(I)I"⟩
abbrev cX10_plainTells : ByteArray := prog_12_method_76_code
def yX10_plainTells : MethodName := ⟨RX10, "plainTells", "(I)I"⟩
abbrev cX10_tellsActs : ByteArray := prog_12_method_77_code
def yX10_tellsActs : MethodName := ⟨RX10, "tellsActs", "(I)I"⟩
abbrev cX10_act : ByteArray := prog_12_method_78_code
def yX10_act : MethodName := ⟨RX10, "act", "(III)I"⟩
abbrev cX10_trace : ByteArray := prog_12_method_79_code
def yX10_trace : MethodName := ⟨RX10, "trace", "(I)I"⟩
abbrev cX10_as : ByteArray := prog_12_method_80_code
def yX10_as : MethodName := ⟨RX10, "as", "(II)I"⟩
abbrev cX10_image : ByteArray := prog_12_method_81_code
def yX10_image : MethodName := ⟨RX10, "image", "()I"⟩
abbrev cX10_undo : ByteArray := prog_12_method_82_code
def yX10_undo : MethodName := ⟨RX10, "undo", "()I"⟩
abbrev cX10_count : ByteArray := prog_12_method_83_code
def yX10_count : MethodName := ⟨RX10, "count", "(I)I"⟩
def RJ6 : String := "java/lang/Integer"
def TJ6 : u_T := fun k => match k with
  | _ => ("", "", "", false)
def tyJ6 : Nat → FieldType := fun k => match k with
  | _ => .int
abbrev wsJ60 : List Cond := u_ws RJ6 TJ6 0
theorem nmJ6 : ∀ a, a < 0 → ∀ b, b < 0 → a ≠ b → (TJ6 a).2.1 ≠ (TJ6 b).2.1 := by decide +kernel
theorem tyJ6_ok : ∀ k, k < 0 → parseFieldDescriptor (TJ6 k).2.2.1 = some (tyJ6 k) := by decide +kernel
abbrev cJ6_compare_7cf53 : ByteArray := prog_13_method_40_code
def yJ6_compare_7cf53 : MethodName := ⟨RJ6, "compare", "(II)I"⟩
abbrev cJ6_bitCount_0f7a4 : ByteArray := prog_13_method_49_code
def yJ6_bitCount_0f7a4 : MethodName := ⟨RJ6, "bitCount", "(I)I"⟩
def RJ13 : String := "java/lang/Long"
def TJ13 : u_T := fun k => match k with
  | _ => ("", "", "", false)
def tyJ13 : Nat → FieldType := fun k => match k with
  | _ => .int
abbrev wsJ130 : List Cond := u_ws RJ13 TJ13 0
theorem nmJ13 : ∀ a, a < 0 → ∀ b, b < 0 → a ≠ b → (TJ13 a).2.1 ≠ (TJ13 b).2.1 := by decide +kernel
theorem tyJ13_ok : ∀ k, k < 0 → parseFieldDescriptor (TJ13 k).2.2.1 = some (tyJ13 k) := by decide +kernel
abbrev cJ13_bitCount_95d88 : ByteArray := prog_14_method_50_code
def yJ13_bitCount_95d88 : MethodName := ⟨RJ13, "bitCount", "(J)I"⟩
def RJ9 : String := "java/lang/Math"
def TJ9 : u_T := fun k => match k with
  | _ => ("", "", "", false)
def tyJ9 : Nat → FieldType := fun k => match k with
  | _ => .int
abbrev wsJ90 : List Cond := u_ws RJ9 TJ9 0
theorem nmJ9 : ∀ a, a < 0 → ∀ b, b < 0 → a ≠ b → (TJ9 a).2.1 ≠ (TJ9 b).2.1 := by decide +kernel
theorem tyJ9_ok : ∀ k, k < 0 → parseFieldDescriptor (TJ9 k).2.2.1 = some (tyJ9 k) := by decide +kernel
abbrev cJ9_abs_0f7a4 : ByteArray := prog_15_method_59_code
def yJ9_abs_0f7a4 : MethodName := ⟨RJ9, "abs", "(I)I"⟩
abbrev cJ9_max_7cf53 : ByteArray := prog_15_method_65_code
def yJ9_max_7cf53 : MethodName := ⟨RJ9, "max", "(II)I"⟩
abbrev cJ9_min_7cf53 : ByteArray := prog_15_method_69_code
def yJ9_min_7cf53 : MethodName := ⟨RJ9, "min", "(II)I"⟩
def RJ0 : String := "java/lang/String"
def TJ0 : u_T := fun k => match k with
  | _ => ("", "", "", false)
def tyJ0 : Nat → FieldType := fun k => match k with
  | _ => .int
abbrev wsJ00 : List Cond := u_ws RJ0 TJ0 0
theorem nmJ0 : ∀ a, a < 0 → ∀ b, b < 0 → a ≠ b → (TJ0 a).2.1 ≠ (TJ0 b).2.1 := by decide +kernel
theorem tyJ0_ok : ∀ k, k < 0 → parseFieldDescriptor (TJ0 k).2.2.1 = some (tyJ0 k) := by decide +kernel
abbrev cJ0_length_8abf5 : ByteArray := prog_16_method_54_code
def yJ0_length_8abf5 : MethodName := ⟨RJ0, "length", "()I"⟩
abbrev cJ0_charAt_5068e : ByteArray := prog_16_method_56_code
def yJ0_charAt_5068e : MethodName := ⟨RJ0, "charAt", "(I)C"⟩
abbrev cJ0_coder_7d493 : ByteArray := prog_16_method_152_code
def yJ0_coder_7d493 : MethodName := ⟨RJ0, "coder", "()B"⟩
abbrev cJ0_isLatin1_aae02 : ByteArray := prog_16_method_154_code
def yJ0_isLatin1_aae02 : MethodName := ⟨RJ0, "isLatin1", "()Z"⟩
abbrev cJ0_checkIndex_df160 : ByteArray := prog_16_method_155_code
def yJ0_checkIndex_df160 : MethodName := ⟨RJ0, "checkIndex", "(II)V"⟩
def RJ1 : String := "java/lang/StringLatin1"
def TJ1 : u_T := fun k => match k with
  | _ => ("", "", "", false)
def tyJ1 : Nat → FieldType := fun k => match k with
  | _ => .int
abbrev wsJ10 : List Cond := u_ws RJ1 TJ1 0
theorem nmJ1 : ∀ a, a < 0 → ∀ b, b < 0 → a ≠ b → (TJ1 a).2.1 ≠ (TJ1 b).2.1 := by decide +kernel
theorem tyJ1_ok : ∀ k, k < 0 → parseFieldDescriptor (TJ1 k).2.2.1 = some (tyJ1 k) := by decide +kernel
abbrev cJ1_charAt_3b067 : ByteArray := prog_17_method_2_code
def yJ1_charAt_3b067 : MethodName := ⟨RJ1, "charAt", "([BI)C"⟩
def RJ2 : String := "java/lang/StringUTF16"
def TJ2 : u_T := fun k => match k with
  | _ => ("", "", "", false)
def tyJ2 : Nat → FieldType := fun k => match k with
  | _ => .int
abbrev wsJ20 : List Cond := u_ws RJ2 TJ2 0
theorem nmJ2 : ∀ a, a < 0 → ∀ b, b < 0 → a ≠ b → (TJ2 a).2.1 ≠ (TJ2 b).2.1 := by decide +kernel
theorem tyJ2_ok : ∀ k, k < 0 → parseFieldDescriptor (TJ2 k).2.2.1 = some (tyJ2 k) := by decide +kernel
abbrev cJ2_getChar_3b067 : ByteArray := prog_18_method_5_code
def yJ2_getChar_3b067 : MethodName := ⟨RJ2, "getChar", "([BI)C"⟩
abbrev cJ2_length_9d52b : ByteArray := prog_18_method_6_code
def yJ2_length_9d52b : MethodName := ⟨RJ2, "length", "([B)I"⟩
abbrev cJ2_charAt_3b067 : ByteArray := prog_18_method_83_code
def yJ2_charAt_3b067 : MethodName := ⟨RJ2, "charAt", "([BI)C"⟩
abbrev cJ2_checkIndex_2214a : ByteArray := prog_18_method_91_code
def yJ2_checkIndex_2214a : MethodName := ⟨RJ2, "checkIndex", "(I[B)V"⟩
def RJ10 : String := "java/lang/System"
def TJ10 : u_T := fun k => match k with
  | _ => ("", "", "", false)
def tyJ10 : Nat → FieldType := fun k => match k with
  | _ => .int
abbrev wsJ100 : List Cond := u_ws RJ10 TJ10 0
theorem nmJ10 : ∀ a, a < 0 → ∀ b, b < 0 → a ≠ b → (TJ10 a).2.1 ≠ (TJ10 b).2.1 := by decide +kernel
theorem tyJ10_ok : ∀ k, k < 0 → parseFieldDescriptor (TJ10 k).2.2.1 = some (tyJ10 k) := by decide +kernel
def RJ3 : String := "jdk/internal/util/Preconditions"
def TJ3 : u_T := fun k => match k with
  | _ => ("", "", "", false)
def tyJ3 : Nat → FieldType := fun k => match k with
  | _ => .int
abbrev wsJ30 : List Cond := u_ws RJ3 TJ3 0
theorem nmJ3 : ∀ a, a < 0 → ∀ b, b < 0 → a ≠ b → (TJ3 a).2.1 ≠ (TJ3 b).2.1 := by decide +kernel
theorem tyJ3_ok : ∀ k, k < 0 → parseFieldDescriptor (TJ3 k).2.2.1 = some (tyJ3 k) := by decide +kernel
abbrev cJ3_checkIndex_8e157 : ByteArray := prog_20_method_11_code
def yJ3_checkIndex_8e157 : MethodName := ⟨RJ3, "checkIndex", "(IILjava/util/function/BiFunction;)I"⟩
def RL : String := "KnockPipesLaw"
abbrev cL_law : ByteArray := code
def yL_law : MethodName := ⟨RL, "law", "([I)Z"⟩
abbrev vwCl : List vw_C := [(RX0, TX0, 5), (RX1, TX1, 6), (RX2, TX2, 7), (RX3, TX3, 6), (RX4, TX4, 4), (RX5, TX5, 3), (RX6, TX6, 6), (RX7, TX7, 2), (RX9, TX9, 8), (RX10, TX10, 26)]
end
section
-- the words of the tables that are good, by their places
def kp_wl : List Cond := lw_tbl.filter goodWord
theorem kp_wl_in : ∀ w ∈ kp_wl, w ∈ lw_tbl := fun w h => (List.mem_filter.mp h).1
theorem kp_wl_good : GoodIn kp_wl kp_wl := fun w h => ⟨h, good_of_word (List.mem_filter.mp h).2⟩
theorem kp_tp {w : Cond} (h : w ∈ k2_sels lw_privs) (hg : goodWord w = true) : w ∈ kp_wl := List.mem_filter.mpr ⟨List.mem_append_left _ h, hg⟩
theorem kp_tt0 {w : Cond} (h : w ∈ tables_1) (hg : goodWord w = true) : w ∈ kp_wl := List.mem_filter.mpr ⟨List.mem_append_right _ h, hg⟩
theorem kp_t1 {w : Cond} {i : Nat} (h : tables_1_1[i]? = some w) (hg : goodWord w = true) : w ∈ kp_wl := kp_tt0 (List.mem_append_left _ (List.mem_of_getElem? h)) hg
theorem kp_t2 {w : Cond} {i : Nat} (h : tables_1_2[i]? = some w) (hg : goodWord w = true) : w ∈ kp_wl := kp_tt0 (List.mem_append_right _ (List.mem_append_left _ (List.mem_of_getElem? h))) hg
theorem kp_t3 {w : Cond} {i : Nat} (h : tables_1_3[i]? = some w) (hg : goodWord w = true) : w ∈ kp_wl := kp_tt0 (List.mem_append_right _ (List.mem_append_right _ (List.mem_append_left _ (List.mem_of_getElem? h)))) hg
theorem kp_t4 {w : Cond} {i : Nat} (h : tables_1_4[i]? = some w) (hg : goodWord w = true) : w ∈ kp_wl := kp_tt0 (List.mem_append_right _ (List.mem_append_right _ (List.mem_append_right _ (List.mem_append_left _ (List.mem_of_getElem? h))))) hg
theorem kp_t5 {w : Cond} {i : Nat} (h : tables_1_5[i]? = some w) (hg : goodWord w = true) : w ∈ kp_wl := kp_tt0 (List.mem_append_right _ (List.mem_append_right _ (List.mem_append_right _ (List.mem_append_right _ ((List.mem_of_getElem? h)))))) hg
theorem q1_0 : Cond.initialized "KnockPipesLaw" ∈ kp_wl := kp_t1 (i := 0) rfl rfl
theorem q1_1 : Cond.initialized "KnockPipes" ∈ kp_wl := kp_t1 (i := 1) rfl rfl
theorem q1_2 : Cond.initialized "KnockPipes$Home" ∈ kp_wl := kp_t1 (i := 2) rfl rfl
theorem q1_3 : Cond.initialized "KnockPipes$Tape" ∈ kp_wl := kp_t1 (i := 3) rfl rfl
theorem q1_4 : Cond.initialized "KnockPipes$House" ∈ kp_wl := kp_t1 (i := 4) rfl rfl
theorem q1_5 : Cond.initialized "java/lang/System" ∈ kp_wl := kp_t1 (i := 5) rfl rfl
theorem q1_6 : Cond.initialized "KnockPipes$Noises" ∈ kp_wl := kp_t1 (i := 6) rfl rfl
theorem q1_7 : Cond.initialized "KnockPipes$Notebook" ∈ kp_wl := kp_t1 (i := 7) rfl rfl
theorem q1_8 : Cond.initialized "KnockPipes$Reader" ∈ kp_wl := kp_t1 (i := 8) rfl rfl
theorem q1_9 : Cond.initialized "KnockPipes$Sounds" ∈ kp_wl := kp_t1 (i := 9) rfl rfl
theorem q1_10 : Cond.initialized "KnockPipes$Acts" ∈ kp_wl := kp_t1 (i := 10) rfl rfl
theorem q1_11 : Cond.initialized "KnockPipesModel" ∈ kp_wl := kp_t1 (i := 11) rfl rfl
theorem q1_12 : Cond.initialized "java/lang/Long" ∈ kp_wl := kp_t1 (i := 12) rfl rfl
theorem q1_13 : Cond.initialized "java/lang/String" ∈ kp_wl := kp_t1 (i := 13) rfl rfl
theorem q1_14 : Cond.initialized "java/lang/StringLatin1" ∈ kp_wl := kp_t1 (i := 14) rfl rfl
theorem q1_15 : Cond.initialized "jdk/internal/util/Preconditions" ∈ kp_wl := kp_t1 (i := 15) rfl rfl
theorem q1_16 : Cond.initialized "java/lang/StringUTF16" ∈ kp_wl := kp_t1 (i := 16) rfl rfl
theorem q1_17 : Cond.initialized "KnockPipes$Test" ∈ kp_wl := kp_t1 (i := 17) rfl rfl
theorem q1_18 : Cond.initialized "java/lang/Integer" ∈ kp_wl := kp_t1 (i := 18) rfl rfl
theorem q1_19 : Cond.initialized "java/lang/Math" ∈ kp_wl := kp_t1 (i := 19) rfl rfl
theorem q1_20 : Cond.classLink "KnockPipesLaw" 7 "KnockPipes" ∈ kp_wl := kp_t1 (i := 20) rfl rfl
theorem q1_21 : Cond.instantiable "KnockPipes" 8 ∈ kp_wl := kp_t1 (i := 21) rfl rfl
theorem q1_22 : Cond.methodLink "KnockPipesLaw" 9 yX9_init ∈ kp_wl := kp_t1 (i := 22) rfl rfl
theorem q1_23 : Cond.instanceMethod yX9_init ∈ kp_wl := kp_t1 (i := 23) rfl rfl
theorem q1_24 : Cond.code yX9_init cX9_init 1 none ∈ kp_wl := kp_t1 (i := 24) rfl rfl
theorem q1_25 : Cond.methodLink "KnockPipes" 5 objectInit ∈ kp_wl := kp_t1 (i := 25) rfl rfl
theorem q1_26 : Cond.instanceMethod objectInit ∈ kp_wl := kp_t1 (i := 26) rfl rfl
theorem q1_28 : Cond.classLink "KnockPipes" 11 "KnockPipes$Home" ∈ kp_wl := kp_t1 (i := 28) rfl rfl
theorem q1_29 : Cond.instantiable "KnockPipes$Home" 6 ∈ kp_wl := kp_t1 (i := 29) rfl rfl
theorem q1_31 : Cond.instanceMethod yX1_init ∈ kp_wl := kp_t1 (i := 31) rfl rfl
theorem q1_32 : Cond.code yX1_init cX1_init 1 none ∈ kp_wl := kp_t1 (i := 32) rfl rfl
theorem q1_33 : Cond.methodLink "KnockPipes$Home" 3 objectInit ∈ kp_wl := kp_t1 (i := 33) rfl rfl
theorem q1_34 : Cond.classLink "KnockPipes$Home" 15 "KnockPipes$Tape" ∈ kp_wl := kp_t1 (i := 34) rfl rfl
theorem q1_35 : Cond.instantiable "KnockPipes$Tape" 2 ∈ kp_wl := kp_t1 (i := 35) rfl rfl
theorem q1_37 : Cond.instanceMethod yX7_init ∈ kp_wl := kp_t1 (i := 37) rfl rfl
theorem q1_38 : Cond.code yX7_init cX7_init 1 none ∈ kp_wl := kp_t1 (i := 38) rfl rfl
theorem q1_39 : Cond.methodLink "KnockPipes$Tape" 3 objectInit ∈ kp_wl := kp_t1 (i := 39) rfl rfl
theorem q1_40 : Cond.fieldLink "KnockPipes$Tape" 9 "KnockPipes$Tape" "bytes" "[I" ∈ kp_wl := kp_t1 (i := 40) rfl rfl
theorem q1_41 : Cond.fieldLink "KnockPipes$Reader" 47 "KnockPipes$Tape" "bytes" "[I" ∈ kp_wl := kp_t1 (i := 41) rfl rfl
theorem q1_42 : Cond.fieldLink "KnockPipes$Tape" 15 "KnockPipes$Tape" "size" "I" ∈ kp_wl := kp_t1 (i := 42) rfl rfl
theorem q1_43 : Cond.fieldLink "KnockPipes$Reader" 40 "KnockPipes$Tape" "size" "I" ∈ kp_wl := kp_t1 (i := 43) rfl rfl
theorem q1_44 : Cond.fieldLink "KnockPipes" 67 "KnockPipes$Tape" "size" "I" ∈ kp_wl := kp_t1 (i := 44) rfl rfl
theorem q1_45 : Cond.laysFinal "KnockPipes$Tape" "KnockPipes$Tape" "bytes" "[I" ∈ kp_wl := kp_t1 (i := 45) rfl rfl
theorem q1_47 : Cond.lays "KnockPipes$Tape" "KnockPipes$Tape" "size" "I" ∈ kp_wl := kp_t1 (i := 47) rfl rfl
theorem q1_50 : Cond.arrayClass .long ∈ kp_wl := kp_t1 (i := 50) rfl rfl
theorem q1_51 : Cond.arrayClass .int ∈ kp_wl := kp_t1 (i := 51) rfl rfl
theorem q1_52 : Cond.classLink "KnockPipes$Home" 22 "KnockPipes$House" ∈ kp_wl := kp_t1 (i := 52) rfl rfl
theorem q1_53 : Cond.instantiable "KnockPipes$House" 7 ∈ kp_wl := kp_t1 (i := 53) rfl rfl
theorem q1_54 : Cond.methodLink "KnockPipes$Home" 24 yX2_init ∈ kp_wl := kp_t1 (i := 54) rfl rfl
theorem q1_55 : Cond.instanceMethod yX2_init ∈ kp_wl := kp_t1 (i := 55) rfl rfl
theorem q1_56 : Cond.code yX2_init cX2_init 1 none ∈ kp_wl := kp_t1 (i := 56) rfl rfl
theorem q1_57 : Cond.methodLink "KnockPipes$House" 3 objectInit ∈ kp_wl := kp_t1 (i := 57) rfl rfl
theorem q1_58 : Cond.methodLink "KnockPipes$House" 35 yX2_empty ∈ kp_wl := kp_t1 (i := 58) rfl rfl
theorem q1_59 : Cond.instanceMethod yX2_empty ∈ kp_wl := kp_t1 (i := 59) rfl rfl
theorem q1_60 : Cond.selects "KnockPipes$House" yX2_empty yX2_empty ∈ kp_wl := kp_t1 (i := 60) rfl rfl
theorem q1_61 : Cond.code yX2_empty cX2_empty 1 none ∈ kp_wl := kp_t1 (i := 61) rfl rfl
theorem q1_64 : Cond.methodLink "KnockPipes$House" 41 ⟨"java/lang/System", "arraycopy", "(Ljava/lang/Object;ILjava/lang/Object;II)V"⟩ ∈ kp_wl := kp_t1 (i := 64) rfl rfl
theorem q1_65 : Cond.static ⟨"java/lang/System", "arraycopy", "(Ljava/lang/Object;ILjava/lang/Object;II)V"⟩ ∈ kp_wl := kp_t1 (i := 65) rfl rfl
theorem q1_66 : Cond.native ⟨"java/lang/System", "arraycopy", "(Ljava/lang/Object;ILjava/lang/Object;II)V"⟩ ∈ kp_wl := kp_t1 (i := 66) rfl rfl
theorem q1_67 : Cond.fieldLink "KnockPipes$House" 9 "KnockPipes$House" "numbers" "[I" ∈ kp_wl := kp_t1 (i := 67) rfl rfl
theorem q1_68 : Cond.fieldLink "KnockPipes" 100 "KnockPipes$House" "numbers" "[I" ∈ kp_wl := kp_t1 (i := 68) rfl rfl
theorem q1_69 : Cond.fieldLink "KnockPipes$Reader" 61 "KnockPipes$House" "numbers" "[I" ∈ kp_wl := kp_t1 (i := 69) rfl rfl
theorem q1_70 : Cond.fieldLink "KnockPipes$Sounds" 99 "KnockPipes$House" "numbers" "[I" ∈ kp_wl := kp_t1 (i := 70) rfl rfl
theorem q1_71 : Cond.fieldLink "KnockPipes$House" 15 "KnockPipes$House" "codes" "[I" ∈ kp_wl := kp_t1 (i := 71) rfl rfl
theorem q1_72 : Cond.fieldLink "KnockPipes$Sounds" 68 "KnockPipes$House" "codes" "[I" ∈ kp_wl := kp_t1 (i := 72) rfl rfl
theorem q1_73 : Cond.fieldLink "KnockPipes$House" 18 "KnockPipes$House" "grows" "[Z" ∈ kp_wl := kp_t1 (i := 73) rfl rfl
theorem q1_74 : Cond.fieldLink "KnockPipes$Sounds" 57 "KnockPipes$House" "grows" "[Z" ∈ kp_wl := kp_t1 (i := 74) rfl rfl
theorem q1_75 : Cond.fieldLink "KnockPipes$House" 22 "KnockPipes$House" "amount" "[I" ∈ kp_wl := kp_t1 (i := 75) rfl rfl
theorem q1_76 : Cond.fieldLink "KnockPipes$Sounds" 61 "KnockPipes$House" "amount" "[I" ∈ kp_wl := kp_t1 (i := 76) rfl rfl
theorem q1_77 : Cond.fieldLink "KnockPipes$House" 25 "KnockPipes$House" "end" "[I" ∈ kp_wl := kp_t1 (i := 77) rfl rfl
theorem q1_78 : Cond.fieldLink "KnockPipes$Sounds" 48 "KnockPipes$House" "end" "[I" ∈ kp_wl := kp_t1 (i := 78) rfl rfl
theorem q1_79 : Cond.fieldLink "KnockPipes$House" 28 "KnockPipes$House" "clauses" "I" ∈ kp_wl := kp_t1 (i := 79) rfl rfl
theorem q1_80 : Cond.fieldLink "KnockPipes$Sounds" 42 "KnockPipes$House" "clauses" "I" ∈ kp_wl := kp_t1 (i := 80) rfl rfl
theorem q1_81 : Cond.fieldLink "KnockPipes$House" 32 "KnockPipes$House" "size" "I" ∈ kp_wl := kp_t1 (i := 81) rfl rfl
theorem q1_82 : Cond.laysFinal "KnockPipes$House" "KnockPipes$House" "numbers" "[I" ∈ kp_wl := kp_t1 (i := 82) rfl rfl
theorem q1_84 : Cond.laysFinal "KnockPipes$House" "KnockPipes$House" "codes" "[I" ∈ kp_wl := kp_t1 (i := 84) rfl rfl
theorem q1_86 : Cond.laysFinal "KnockPipes$House" "KnockPipes$House" "grows" "[Z" ∈ kp_wl := kp_t1 (i := 86) rfl rfl
theorem q1_88 : Cond.laysFinal "KnockPipes$House" "KnockPipes$House" "amount" "[I" ∈ kp_wl := kp_t1 (i := 88) rfl rfl
theorem q1_90 : Cond.laysFinal "KnockPipes$House" "KnockPipes$House" "end" "[I" ∈ kp_wl := kp_t1 (i := 90) rfl rfl
theorem q1_92 : Cond.lays "KnockPipes$House" "KnockPipes$House" "clauses" "I" ∈ kp_wl := kp_t1 (i := 92) rfl rfl
theorem q1_94 : Cond.lays "KnockPipes$House" "KnockPipes$House" "size" "I" ∈ kp_wl := kp_t1 (i := 94) rfl rfl
theorem q1_97 : Cond.arrayClass .boolean ∈ kp_wl := kp_t1 (i := 97) rfl rfl
theorem q1_98 : Cond.classLink "KnockPipes$Home" 29 "KnockPipes$Noises" ∈ kp_wl := kp_t1 (i := 98) rfl rfl
theorem q1_99 : Cond.instantiable "KnockPipes$Noises" 6 ∈ kp_wl := kp_t1 (i := 99) rfl rfl
theorem q1_101 : Cond.instanceMethod yX3_init ∈ kp_wl := kp_t1 (i := 101) rfl rfl
theorem q1_102 : Cond.code yX3_init cX3_init 1 none ∈ kp_wl := kp_t1 (i := 102) rfl rfl
theorem q1_103 : Cond.methodLink "KnockPipes$Noises" 3 objectInit ∈ kp_wl := kp_t1 (i := 103) rfl rfl
theorem q1_104 : Cond.fieldLink "KnockPipes$Noises" 9 "KnockPipes$Noises" "kind" "[I" ∈ kp_wl := kp_t1 (i := 104) rfl rfl
theorem q1_105 : Cond.fieldLink "KnockPipes$Acts" 28 "KnockPipes$Noises" "kind" "[I" ∈ kp_wl := kp_t1 (i := 105) rfl rfl
theorem q1_106 : Cond.fieldLink "KnockPipes" 134 "KnockPipes$Noises" "kind" "[I" ∈ kp_wl := kp_t1 (i := 106) rfl rfl
theorem q1_107 : Cond.fieldLink "KnockPipes$Sounds" 86 "KnockPipes$Noises" "kind" "[I" ∈ kp_wl := kp_t1 (i := 107) rfl rfl
theorem q1_108 : Cond.fieldLink "KnockPipes$Noises" 15 "KnockPipes$Noises" "place" "[I" ∈ kp_wl := kp_t1 (i := 108) rfl rfl
theorem q1_109 : Cond.fieldLink "KnockPipes" 137 "KnockPipes$Noises" "place" "[I" ∈ kp_wl := kp_t1 (i := 109) rfl rfl
theorem q1_110 : Cond.fieldLink "KnockPipes$Sounds" 81 "KnockPipes$Noises" "place" "[I" ∈ kp_wl := kp_t1 (i := 110) rfl rfl
theorem q1_111 : Cond.fieldLink "KnockPipes$Noises" 18 "KnockPipes$Noises" "v" "[I" ∈ kp_wl := kp_t1 (i := 111) rfl rfl
theorem q1_112 : Cond.fieldLink "KnockPipes$Acts" 32 "KnockPipes$Noises" "v" "[I" ∈ kp_wl := kp_t1 (i := 112) rfl rfl
theorem q1_113 : Cond.fieldLink "KnockPipes" 140 "KnockPipes$Noises" "v" "[I" ∈ kp_wl := kp_t1 (i := 113) rfl rfl
theorem q1_114 : Cond.fieldLink "KnockPipes$Sounds" 89 "KnockPipes$Noises" "v" "[I" ∈ kp_wl := kp_t1 (i := 114) rfl rfl
theorem q1_115 : Cond.fieldLink "KnockPipes$Noises" 21 "KnockPipes$Noises" "loudness" "[I" ∈ kp_wl := kp_t1 (i := 115) rfl rfl
theorem q1_116 : Cond.fieldLink "KnockPipes" 143 "KnockPipes$Noises" "loudness" "[I" ∈ kp_wl := kp_t1 (i := 116) rfl rfl
theorem q1_117 : Cond.fieldLink "KnockPipes$Noises" 24 "KnockPipes$Noises" "still" "I" ∈ kp_wl := kp_t1 (i := 117) rfl rfl
theorem q1_118 : Cond.fieldLink "KnockPipes" 146 "KnockPipes$Noises" "still" "I" ∈ kp_wl := kp_t1 (i := 118) rfl rfl
theorem q1_119 : Cond.fieldLink "KnockPipes$Noises" 28 "KnockPipes$Noises" "count" "I" ∈ kp_wl := kp_t1 (i := 119) rfl rfl
theorem q1_120 : Cond.fieldLink "KnockPipes" 123 "KnockPipes$Noises" "count" "I" ∈ kp_wl := kp_t1 (i := 120) rfl rfl
theorem q1_121 : Cond.laysFinal "KnockPipes$Noises" "KnockPipes$Noises" "kind" "[I" ∈ kp_wl := kp_t1 (i := 121) rfl rfl
theorem q1_123 : Cond.laysFinal "KnockPipes$Noises" "KnockPipes$Noises" "place" "[I" ∈ kp_wl := kp_t1 (i := 123) rfl rfl
theorem q1_125 : Cond.laysFinal "KnockPipes$Noises" "KnockPipes$Noises" "v" "[I" ∈ kp_wl := kp_t1 (i := 125) rfl rfl
theorem q1_127 : Cond.laysFinal "KnockPipes$Noises" "KnockPipes$Noises" "loudness" "[I" ∈ kp_wl := kp_t1 (i := 127) rfl rfl
theorem q1_129 : Cond.lays "KnockPipes$Noises" "KnockPipes$Noises" "still" "I" ∈ kp_wl := kp_t1 (i := 129) rfl rfl
theorem q1_131 : Cond.lays "KnockPipes$Noises" "KnockPipes$Noises" "count" "I" ∈ kp_wl := kp_t1 (i := 131) rfl rfl
theorem q1_134 : Cond.classLink "KnockPipes$Home" 36 "KnockPipes$Notebook" ∈ kp_wl := kp_t1 (i := 134) rfl rfl
theorem q1_135 : Cond.instantiable "KnockPipes$Notebook" 4 ∈ kp_wl := kp_t1 (i := 135) rfl rfl
theorem q1_137 : Cond.instanceMethod yX4_init ∈ kp_wl := kp_t1 (i := 137) rfl rfl
theorem q1_138 : Cond.code yX4_init cX4_init 1 none ∈ kp_wl := kp_t1 (i := 138) rfl rfl
theorem q1_139 : Cond.methodLink "KnockPipes$Notebook" 3 objectInit ∈ kp_wl := kp_t1 (i := 139) rfl rfl
theorem q1_140 : Cond.fieldLink "KnockPipes$Notebook" 9 "KnockPipes$Notebook" "place" "[I" ∈ kp_wl := kp_t1 (i := 140) rfl rfl
theorem q1_141 : Cond.fieldLink "KnockPipes" 279 "KnockPipes$Notebook" "place" "[I" ∈ kp_wl := kp_t1 (i := 141) rfl rfl
theorem q1_142 : Cond.fieldLink "KnockPipes$Notebook" 15 "KnockPipes$Notebook" "minute" "[I" ∈ kp_wl := kp_t1 (i := 142) rfl rfl
theorem q1_143 : Cond.fieldLink "KnockPipes" 280 "KnockPipes$Notebook" "minute" "[I" ∈ kp_wl := kp_t1 (i := 143) rfl rfl
theorem q1_144 : Cond.fieldLink "KnockPipes$Notebook" 18 "KnockPipes$Notebook" "n" "[I" ∈ kp_wl := kp_t1 (i := 144) rfl rfl
theorem q1_145 : Cond.fieldLink "KnockPipes" 283 "KnockPipes$Notebook" "n" "[I" ∈ kp_wl := kp_t1 (i := 145) rfl rfl
theorem q1_146 : Cond.fieldLink "KnockPipes$Notebook" 21 "KnockPipes$Notebook" "count" "I" ∈ kp_wl := kp_t1 (i := 146) rfl rfl
theorem q1_147 : Cond.fieldLink "KnockPipes" 179 "KnockPipes$Notebook" "count" "I" ∈ kp_wl := kp_t1 (i := 147) rfl rfl
theorem q1_148 : Cond.laysFinal "KnockPipes$Notebook" "KnockPipes$Notebook" "place" "[I" ∈ kp_wl := kp_t1 (i := 148) rfl rfl
theorem q1_150 : Cond.laysFinal "KnockPipes$Notebook" "KnockPipes$Notebook" "minute" "[I" ∈ kp_wl := kp_t1 (i := 150) rfl rfl
theorem q1_152 : Cond.laysFinal "KnockPipes$Notebook" "KnockPipes$Notebook" "n" "[I" ∈ kp_wl := kp_t1 (i := 152) rfl rfl
theorem q1_154 : Cond.lays "KnockPipes$Notebook" "KnockPipes$Notebook" "count" "I" ∈ kp_wl := kp_t1 (i := 154) rfl rfl
theorem q1_157 : Cond.fieldLink "KnockPipes$Home" 9 "KnockPipes$Home" "day" "[J" ∈ kp_wl := kp_t1 (i := 157) rfl rfl
theorem q1_158 : Cond.fieldLink "KnockPipes" 55 "KnockPipes$Home" "day" "[J" ∈ kp_wl := kp_t1 (i := 158) rfl rfl
theorem q1_159 : Cond.fieldLink "KnockPipes$Home" 18 "KnockPipes$Home" "tape" "LKnockPipes$Tape;" ∈ kp_wl := kp_t1 (i := 159) rfl rfl
theorem q1_160 : Cond.fieldLink "KnockPipes" 63 "KnockPipes$Home" "tape" "LKnockPipes$Tape;" ∈ kp_wl := kp_t1 (i := 160) rfl rfl
theorem q1_161 : Cond.fieldLink "KnockPipes$Home" 25 "KnockPipes$Home" "house" "LKnockPipes$House;" ∈ kp_wl := kp_t1 (i := 161) rfl rfl
theorem q1_162 : Cond.fieldLink "KnockPipes" 87 "KnockPipes$Home" "house" "LKnockPipes$House;" ∈ kp_wl := kp_t1 (i := 162) rfl rfl
theorem q1_163 : Cond.fieldLink "KnockPipes$Home" 32 "KnockPipes$Home" "noises" "LKnockPipes$Noises;" ∈ kp_wl := kp_t1 (i := 163) rfl rfl
theorem q1_164 : Cond.fieldLink "KnockPipes" 119 "KnockPipes$Home" "noises" "LKnockPipes$Noises;" ∈ kp_wl := kp_t1 (i := 164) rfl rfl
theorem q1_165 : Cond.fieldLink "KnockPipes$Home" 39 "KnockPipes$Home" "book" "LKnockPipes$Notebook;" ∈ kp_wl := kp_t1 (i := 165) rfl rfl
theorem q1_166 : Cond.fieldLink "KnockPipes" 175 "KnockPipes$Home" "book" "LKnockPipes$Notebook;" ∈ kp_wl := kp_t1 (i := 166) rfl rfl
theorem q1_167 : Cond.fieldLink "KnockPipes$Home" 43 "KnockPipes$Home" "houses" "I" ∈ kp_wl := kp_t1 (i := 167) rfl rfl
theorem q1_168 : Cond.fieldLink "KnockPipes" 77 "KnockPipes$Home" "houses" "I" ∈ kp_wl := kp_t1 (i := 168) rfl rfl
theorem q1_169 : Cond.laysFinal "KnockPipes$Home" "KnockPipes$Home" "day" "[J" ∈ kp_wl := kp_t1 (i := 169) rfl rfl
theorem q1_171 : Cond.laysFinal "KnockPipes$Home" "KnockPipes$Home" "tape" "LKnockPipes$Tape;" ∈ kp_wl := kp_t1 (i := 171) rfl rfl
theorem q1_173 : Cond.laysFinal "KnockPipes$Home" "KnockPipes$Home" "house" "LKnockPipes$House;" ∈ kp_wl := kp_t1 (i := 173) rfl rfl
theorem q1_175 : Cond.laysFinal "KnockPipes$Home" "KnockPipes$Home" "noises" "LKnockPipes$Noises;" ∈ kp_wl := kp_t1 (i := 175) rfl rfl
theorem q1_177 : Cond.laysFinal "KnockPipes$Home" "KnockPipes$Home" "book" "LKnockPipes$Notebook;" ∈ kp_wl := kp_t1 (i := 177) rfl rfl
theorem q1_179 : Cond.lays "KnockPipes$Home" "KnockPipes$Home" "houses" "I" ∈ kp_wl := kp_t1 (i := 179) rfl rfl
theorem q1_182 : Cond.classLink "KnockPipes" 25 "KnockPipes$Reader" ∈ kp_wl := kp_t1 (i := 182) rfl rfl
theorem q1_183 : Cond.instantiable "KnockPipes$Reader" 3 ∈ kp_wl := kp_t1 (i := 183) rfl rfl
theorem q1_185 : Cond.instanceMethod yX5_init ∈ kp_wl := kp_t1 (i := 185) rfl rfl
theorem q1_186 : Cond.code yX5_init cX5_init 1 none ∈ kp_wl := kp_t1 (i := 186) rfl rfl
theorem q1_187 : Cond.methodLink "KnockPipes$Reader" 3 objectInit ∈ kp_wl := kp_t1 (i := 187) rfl rfl
theorem q1_188 : Cond.classLink "KnockPipes$Reader" 9 "KnockPipes$House" ∈ kp_wl := kp_t1 (i := 188) rfl rfl
theorem q1_189 : Cond.methodLink "KnockPipes$Reader" 11 yX2_init ∈ kp_wl := kp_t1 (i := 189) rfl rfl
theorem q1_190 : Cond.classLink "KnockPipes$Reader" 18 "KnockPipes$Tape" ∈ kp_wl := kp_t1 (i := 190) rfl rfl
theorem q1_192 : Cond.fieldLink "KnockPipes$Reader" 12 "KnockPipes$Reader" "draft" "LKnockPipes$House;" ∈ kp_wl := kp_t1 (i := 192) rfl rfl
theorem q1_193 : Cond.fieldLink "KnockPipes" 91 "KnockPipes$Reader" "draft" "LKnockPipes$House;" ∈ kp_wl := kp_t1 (i := 193) rfl rfl
theorem q1_194 : Cond.fieldLink "KnockPipes$Reader" 21 "KnockPipes$Reader" "tape" "LKnockPipes$Tape;" ∈ kp_wl := kp_t1 (i := 194) rfl rfl
theorem q1_195 : Cond.fieldLink "KnockPipes$Reader" 25 "KnockPipes$Reader" "at" "I" ∈ kp_wl := kp_t1 (i := 195) rfl rfl
theorem q1_196 : Cond.fieldLink "KnockPipes" 84 "KnockPipes$Reader" "at" "I" ∈ kp_wl := kp_t1 (i := 196) rfl rfl
theorem q1_197 : Cond.laysFinal "KnockPipes$Reader" "KnockPipes$Reader" "draft" "LKnockPipes$House;" ∈ kp_wl := kp_t1 (i := 197) rfl rfl
theorem q1_199 : Cond.laysFinal "KnockPipes$Reader" "KnockPipes$Reader" "tape" "LKnockPipes$Tape;" ∈ kp_wl := kp_t1 (i := 199) rfl rfl
theorem q1_201 : Cond.lays "KnockPipes$Reader" "KnockPipes$Reader" "at" "I" ∈ kp_wl := kp_t1 (i := 201) rfl rfl
theorem q1_204 : Cond.classLink "KnockPipes" 32 "KnockPipes$Sounds" ∈ kp_wl := kp_t1 (i := 204) rfl rfl
theorem q1_205 : Cond.instantiable "KnockPipes$Sounds" 6 ∈ kp_wl := kp_t1 (i := 205) rfl rfl
theorem q1_207 : Cond.instanceMethod yX6_init ∈ kp_wl := kp_t1 (i := 207) rfl rfl
theorem q1_208 : Cond.code yX6_init cX6_init 1 none ∈ kp_wl := kp_t1 (i := 208) rfl rfl
theorem q1_209 : Cond.methodLink "KnockPipes$Sounds" 3 objectInit ∈ kp_wl := kp_t1 (i := 209) rfl rfl
theorem q1_210 : Cond.fieldLink "KnockPipes$Sounds" 9 "KnockPipes$Sounds" "warmth" "[I" ∈ kp_wl := kp_t1 (i := 210) rfl rfl
theorem q1_211 : Cond.fieldLink "KnockPipes" 110 "KnockPipes$Sounds" "warmth" "[I" ∈ kp_wl := kp_t1 (i := 211) rfl rfl
theorem q1_212 : Cond.fieldLink "KnockPipes$Sounds" 15 "KnockPipes$Sounds" "growth" "[I" ∈ kp_wl := kp_t1 (i := 212) rfl rfl
theorem q1_213 : Cond.fieldLink "KnockPipes$Sounds" 18 "KnockPipes$Sounds" "hold" "[I" ∈ kp_wl := kp_t1 (i := 213) rfl rfl
theorem q1_214 : Cond.fieldLink "KnockPipes$Sounds" 21 "KnockPipes$Sounds" "knocks" "[I" ∈ kp_wl := kp_t1 (i := 214) rfl rfl
theorem q1_215 : Cond.fieldLink "KnockPipes$Sounds" 24 "KnockPipes$Sounds" "bare" "[J" ∈ kp_wl := kp_t1 (i := 215) rfl rfl
theorem q1_216 : Cond.fieldLink "KnockPipes$Sounds" 28 "KnockPipes$Sounds" "stack" "[J" ∈ kp_wl := kp_t1 (i := 216) rfl rfl
theorem q1_217 : Cond.laysFinal "KnockPipes$Sounds" "KnockPipes$Sounds" "warmth" "[I" ∈ kp_wl := kp_t1 (i := 217) rfl rfl
theorem q1_219 : Cond.laysFinal "KnockPipes$Sounds" "KnockPipes$Sounds" "growth" "[I" ∈ kp_wl := kp_t1 (i := 219) rfl rfl
theorem q1_221 : Cond.laysFinal "KnockPipes$Sounds" "KnockPipes$Sounds" "hold" "[I" ∈ kp_wl := kp_t1 (i := 221) rfl rfl
theorem q1_223 : Cond.laysFinal "KnockPipes$Sounds" "KnockPipes$Sounds" "knocks" "[I" ∈ kp_wl := kp_t1 (i := 223) rfl rfl
theorem q1_225 : Cond.laysFinal "KnockPipes$Sounds" "KnockPipes$Sounds" "bare" "[J" ∈ kp_wl := kp_t1 (i := 225) rfl rfl
theorem q1_227 : Cond.laysFinal "KnockPipes$Sounds" "KnockPipes$Sounds" "stack" "[J" ∈ kp_wl := kp_t1 (i := 227) rfl rfl
theorem q1_230 : Cond.classLink "KnockPipes" 39 "KnockPipes$Acts" ∈ kp_wl := kp_t1 (i := 230) rfl rfl
theorem q1_231 : Cond.instantiable "KnockPipes$Acts" 5 ∈ kp_wl := kp_t1 (i := 231) rfl rfl
theorem q1_233 : Cond.instanceMethod yX0_init ∈ kp_wl := kp_t1 (i := 233) rfl rfl
theorem q1_234 : Cond.code yX0_init cX0_init 1 none ∈ kp_wl := kp_t1 (i := 234) rfl rfl
theorem q1_235 : Cond.methodLink "KnockPipes$Acts" 3 objectInit ∈ kp_wl := kp_t1 (i := 235) rfl rfl
theorem q1_236 : Cond.fieldLink "KnockPipes$Acts" 11 "KnockPipes$Acts" "trace" "[I" ∈ kp_wl := kp_t1 (i := 236) rfl rfl
theorem q1_237 : Cond.fieldLink "KnockPipes" 260 "KnockPipes$Acts" "trace" "[I" ∈ kp_wl := kp_t1 (i := 237) rfl rfl
theorem q1_238 : Cond.fieldLink "KnockPipes$Acts" 15 "KnockPipes$Acts" "ran" "I" ∈ kp_wl := kp_t1 (i := 238) rfl rfl
theorem q1_239 : Cond.fieldLink "KnockPipes" 253 "KnockPipes$Acts" "ran" "I" ∈ kp_wl := kp_t1 (i := 239) rfl rfl
theorem q2_0 : Cond.fieldLink "KnockPipes$Acts" 19 "KnockPipes$Acts" "kind" "I" ∈ kp_wl := kp_t2 (i := 0) rfl rfl
theorem q2_1 : Cond.fieldLink "KnockPipes$Acts" 22 "KnockPipes$Acts" "number" "I" ∈ kp_wl := kp_t2 (i := 1) rfl rfl
theorem q2_2 : Cond.fieldLink "KnockPipes$Acts" 25 "KnockPipes$Acts" "v" "I" ∈ kp_wl := kp_t2 (i := 2) rfl rfl
theorem q2_3 : Cond.laysFinal "KnockPipes$Acts" "KnockPipes$Acts" "trace" "[I" ∈ kp_wl := kp_t2 (i := 3) rfl rfl
theorem q2_5 : Cond.lays "KnockPipes$Acts" "KnockPipes$Acts" "ran" "I" ∈ kp_wl := kp_t2 (i := 5) rfl rfl
theorem q2_7 : Cond.lays "KnockPipes$Acts" "KnockPipes$Acts" "kind" "I" ∈ kp_wl := kp_t2 (i := 7) rfl rfl
theorem q2_9 : Cond.lays "KnockPipes$Acts" "KnockPipes$Acts" "number" "I" ∈ kp_wl := kp_t2 (i := 9) rfl rfl
theorem q2_11 : Cond.lays "KnockPipes$Acts" "KnockPipes$Acts" "v" "I" ∈ kp_wl := kp_t2 (i := 11) rfl rfl
theorem q2_14 : Cond.fieldLink "KnockPipes" 14 "KnockPipes" "now" "LKnockPipes$Home;" ∈ kp_wl := kp_t2 (i := 14) rfl rfl
theorem q2_15 : Cond.fieldLink "KnockPipes" 18 "KnockPipes" "kept" "LKnockPipes$Home;" ∈ kp_wl := kp_t2 (i := 15) rfl rfl
theorem q2_16 : Cond.fieldLink "KnockPipes" 21 "KnockPipes" "imaged" "Z" ∈ kp_wl := kp_t2 (i := 16) rfl rfl
theorem q2_17 : Cond.fieldLink "KnockPipes" 28 "KnockPipes" "reader" "LKnockPipes$Reader;" ∈ kp_wl := kp_t2 (i := 17) rfl rfl
theorem q2_18 : Cond.fieldLink "KnockPipes" 35 "KnockPipes" "sounds" "LKnockPipes$Sounds;" ∈ kp_wl := kp_t2 (i := 18) rfl rfl
theorem q2_19 : Cond.fieldLink "KnockPipes" 42 "KnockPipes" "acts" "LKnockPipes$Acts;" ∈ kp_wl := kp_t2 (i := 19) rfl rfl
theorem q2_20 : Cond.fieldLink "KnockPipes" 46 "KnockPipes" "settled" "Z" ∈ kp_wl := kp_t2 (i := 20) rfl rfl
theorem q2_21 : Cond.fieldLink "KnockPipes" 49 "KnockPipes" "shares" "[I" ∈ kp_wl := kp_t2 (i := 21) rfl rfl
theorem q2_22 : Cond.laysFinal "KnockPipes" "KnockPipes" "now" "LKnockPipes$Home;" ∈ kp_wl := kp_t2 (i := 22) rfl rfl
theorem q2_24 : Cond.laysFinal "KnockPipes" "KnockPipes" "kept" "LKnockPipes$Home;" ∈ kp_wl := kp_t2 (i := 24) rfl rfl
theorem q2_26 : Cond.lays "KnockPipes" "KnockPipes" "imaged" "Z" ∈ kp_wl := kp_t2 (i := 26) rfl rfl
theorem q2_28 : Cond.laysFinal "KnockPipes" "KnockPipes" "reader" "LKnockPipes$Reader;" ∈ kp_wl := kp_t2 (i := 28) rfl rfl
theorem q2_30 : Cond.laysFinal "KnockPipes" "KnockPipes" "sounds" "LKnockPipes$Sounds;" ∈ kp_wl := kp_t2 (i := 30) rfl rfl
theorem q2_32 : Cond.laysFinal "KnockPipes" "KnockPipes" "acts" "LKnockPipes$Acts;" ∈ kp_wl := kp_t2 (i := 32) rfl rfl
theorem q2_34 : Cond.lays "KnockPipes" "KnockPipes" "settled" "Z" ∈ kp_wl := kp_t2 (i := 34) rfl rfl
theorem q2_36 : Cond.laysFinal "KnockPipes" "KnockPipes" "shares" "[I" ∈ kp_wl := kp_t2 (i := 36) rfl rfl
theorem q2_39 : Cond.methodLink "KnockPipesLaw" 15 yX9_day ∈ kp_wl := kp_t2 (i := 39) rfl rfl
theorem q2_40 : Cond.instanceMethod yX9_day ∈ kp_wl := kp_t2 (i := 40) rfl rfl
theorem q2_41 : Cond.selects "KnockPipes" yX9_day yX9_day ∈ kp_wl := kp_t2 (i := 41) rfl rfl
theorem q2_42 : Cond.code yX9_day cX9_day 5 (some .int) ∈ kp_wl := kp_t2 (i := 42) rfl rfl
theorem q2_43 : Cond.constantLong "KnockPipes" 53 (1099511627775) ∈ kp_wl := kp_t2 (i := 43) rfl rfl
theorem q2_44 : Cond.methodLink "KnockPipes" 59 yJ13_bitCount_95d88 ∈ kp_wl := kp_t2 (i := 44) rfl rfl
theorem q2_45 : Cond.static yJ13_bitCount_95d88 ∈ kp_wl := kp_t2 (i := 45) rfl rfl
theorem q2_46 : Cond.code yJ13_bitCount_95d88 cJ13_bitCount_95d88 2 (some .int) ∈ kp_wl := kp_t2 (i := 46) rfl rfl
theorem q2_47 : Cond.constantLong "java/lang/Long" 314 (6148914691236517205) ∈ kp_wl := kp_t2 (i := 47) rfl rfl
theorem q2_48 : Cond.constantLong "java/lang/Long" 316 (3689348814741910323) ∈ kp_wl := kp_t2 (i := 48) rfl rfl
theorem q2_49 : Cond.constantLong "java/lang/Long" 318 (1085102592571150095) ∈ kp_wl := kp_t2 (i := 49) rfl rfl
theorem q2_50 : Cond.methodLink "KnockPipesLaw" 20 yX9_feed ∈ kp_wl := kp_t2 (i := 50) rfl rfl
theorem q2_51 : Cond.instanceMethod yX9_feed ∈ kp_wl := kp_t2 (i := 51) rfl rfl
theorem q2_52 : Cond.selects "KnockPipes" yX9_feed yX9_feed ∈ kp_wl := kp_t2 (i := 52) rfl rfl
theorem q2_53 : Cond.code yX9_feed cX9_feed 5 (some .int) ∈ kp_wl := kp_t2 (i := 53) rfl rfl
theorem q2_54 : Cond.methodLink "KnockPipes" 73 yX7_add ∈ kp_wl := kp_t2 (i := 54) rfl rfl
theorem q2_55 : Cond.instanceMethod yX7_add ∈ kp_wl := kp_t2 (i := 55) rfl rfl
theorem q2_56 : Cond.selects "KnockPipes$Tape" yX7_add yX7_add ∈ kp_wl := kp_t2 (i := 56) rfl rfl
theorem q2_57 : Cond.code yX7_add cX7_add 2 none ∈ kp_wl := kp_t2 (i := 57) rfl rfl
theorem q2_58 : Cond.methodLink "KnockPipesLaw" 25 yX9_house ∈ kp_wl := kp_t2 (i := 58) rfl rfl
theorem q2_59 : Cond.instanceMethod yX9_house ∈ kp_wl := kp_t2 (i := 59) rfl rfl
theorem q2_60 : Cond.selects "KnockPipes" yX9_house yX9_house ∈ kp_wl := kp_t2 (i := 60) rfl rfl
theorem q2_61 : Cond.code yX9_house cX9_house 2 (some .int) ∈ kp_wl := kp_t2 (i := 61) rfl rfl
theorem q2_62 : Cond.methodLink "KnockPipes" 80 yX5_reads ∈ kp_wl := kp_t2 (i := 62) rfl rfl
theorem q2_63 : Cond.instanceMethod yX5_reads ∈ kp_wl := kp_t2 (i := 63) rfl rfl
theorem q2_64 : Cond.selects "KnockPipes$Reader" yX5_reads yX5_reads ∈ kp_wl := kp_t2 (i := 64) rfl rfl
theorem q2_65 : Cond.code yX5_reads cX5_reads 3 (some .boolean) ∈ kp_wl := kp_t2 (i := 65) rfl rfl
theorem q2_66 : Cond.methodLink "KnockPipes$Reader" 29 yX7_copy ∈ kp_wl := kp_t2 (i := 66) rfl rfl
theorem q2_67 : Cond.instanceMethod yX7_copy ∈ kp_wl := kp_t2 (i := 67) rfl rfl
theorem q2_68 : Cond.selects "KnockPipes$Tape" yX7_copy yX7_copy ∈ kp_wl := kp_t2 (i := 68) rfl rfl
theorem q2_69 : Cond.code yX7_copy cX7_copy 2 none ∈ kp_wl := kp_t2 (i := 69) rfl rfl
theorem q2_70 : Cond.methodLink "KnockPipes$Tape" 19 ⟨"java/lang/System", "arraycopy", "(Ljava/lang/Object;ILjava/lang/Object;II)V"⟩ ∈ kp_wl := kp_t2 (i := 70) rfl rfl
theorem q2_71 : Cond.methodLink "KnockPipes$Reader" 33 yX2_empty ∈ kp_wl := kp_t2 (i := 71) rfl rfl
theorem q2_72 : Cond.methodLink "KnockPipes$Reader" 36 yX5_clause ∈ kp_wl := kp_t2 (i := 72) rfl rfl
theorem q2_74 : Cond.instanceMethod yX5_clause ∈ kp_wl := kp_t2 (i := 74) rfl rfl
theorem q2_75 : Cond.code yX5_clause cX5_clause 4 (some .boolean) ∈ kp_wl := kp_t2 (i := 75) rfl rfl
theorem q2_76 : Cond.methodLink "KnockPipes$Reader" 55 yX5_word ∈ kp_wl := kp_t2 (i := 76) rfl rfl
theorem q2_78 : Cond.instanceMethod yX5_word ∈ kp_wl := kp_t2 (i := 78) rfl rfl
theorem q2_79 : Cond.code yX5_word cX5_word 6 (some .int) ∈ kp_wl := kp_t2 (i := 79) rfl rfl
theorem q2_81 : Cond.methodLink "KnockPipes$Reader" 74 yJ0_charAt_5068e ∈ kp_wl := kp_t2 (i := 81) rfl rfl
theorem q2_82 : Cond.instanceMethod yJ0_charAt_5068e ∈ kp_wl := kp_t2 (i := 82) rfl rfl
theorem q2_83 : Cond.selects "java/lang/String" yJ0_charAt_5068e yJ0_charAt_5068e ∈ kp_wl := kp_t2 (i := 83) rfl rfl
theorem q2_84 : Cond.code yJ0_charAt_5068e cJ0_charAt_5068e 2 (some .char) ∈ kp_wl := kp_t2 (i := 84) rfl rfl
theorem q2_85 : Cond.methodLink "java/lang/String" 492 yJ0_isLatin1_aae02 ∈ kp_wl := kp_t2 (i := 85) rfl rfl
theorem q2_86 : Cond.instanceMethod yJ0_isLatin1_aae02 ∈ kp_wl := kp_t2 (i := 86) rfl rfl
theorem q2_87 : Cond.selects "java/lang/String" yJ0_isLatin1_aae02 yJ0_isLatin1_aae02 ∈ kp_wl := kp_t2 (i := 87) rfl rfl
theorem q2_88 : Cond.code yJ0_isLatin1_aae02 cJ0_isLatin1_aae02 1 (some .boolean) ∈ kp_wl := kp_t2 (i := 88) rfl rfl
theorem q2_89 : Cond.fieldLink "java/lang/String" 38 "java/lang/String" "COMPACT_STRINGS" "Z" ∈ kp_wl := kp_t2 (i := 89) rfl rfl
theorem q2_91 : Cond.methodLink "java/lang/String" 495 yJ1_charAt_3b067 ∈ kp_wl := kp_t2 (i := 91) rfl rfl
theorem q2_92 : Cond.static yJ1_charAt_3b067 ∈ kp_wl := kp_t2 (i := 92) rfl rfl
theorem q2_93 : Cond.code yJ1_charAt_3b067 cJ1_charAt_3b067 2 (some .char) ∈ kp_wl := kp_t2 (i := 93) rfl rfl
theorem q2_94 : Cond.methodLink "java/lang/StringLatin1" 9 yJ0_checkIndex_df160 ∈ kp_wl := kp_t2 (i := 94) rfl rfl
theorem q2_95 : Cond.static yJ0_checkIndex_df160 ∈ kp_wl := kp_t2 (i := 95) rfl rfl
theorem q2_96 : Cond.code yJ0_checkIndex_df160 cJ0_checkIndex_df160 2 none ∈ kp_wl := kp_t2 (i := 96) rfl rfl
theorem q2_97 : Cond.fieldLink "java/lang/String" 1053 "jdk/internal/util/Preconditions" "SIOOBE_FORMATTER" "Ljava/util/function/BiFunction;" ∈ kp_wl := kp_t2 (i := 97) rfl rfl
theorem q2_99 : Cond.methodLink "java/lang/String" 1059 yJ3_checkIndex_8e157 ∈ kp_wl := kp_t2 (i := 99) rfl rfl
theorem q2_100 : Cond.static yJ3_checkIndex_8e157 ∈ kp_wl := kp_t2 (i := 100) rfl rfl
theorem q2_101 : Cond.code yJ3_checkIndex_8e157 cJ3_checkIndex_8e157 3 (some .int) ∈ kp_wl := kp_t2 (i := 101) rfl rfl
theorem q2_102 : Cond.methodLink "java/lang/String" 498 yJ2_charAt_3b067 ∈ kp_wl := kp_t2 (i := 102) rfl rfl
theorem q2_103 : Cond.static yJ2_charAt_3b067 ∈ kp_wl := kp_t2 (i := 103) rfl rfl
theorem q2_104 : Cond.code yJ2_charAt_3b067 cJ2_charAt_3b067 2 (some .char) ∈ kp_wl := kp_t2 (i := 104) rfl rfl
theorem q2_105 : Cond.methodLink "java/lang/StringUTF16" 67 yJ2_checkIndex_2214a ∈ kp_wl := kp_t2 (i := 105) rfl rfl
theorem q2_106 : Cond.static yJ2_checkIndex_2214a ∈ kp_wl := kp_t2 (i := 106) rfl rfl
theorem q2_107 : Cond.code yJ2_checkIndex_2214a cJ2_checkIndex_2214a 2 none ∈ kp_wl := kp_t2 (i := 107) rfl rfl
theorem q2_108 : Cond.methodLink "java/lang/StringUTF16" 48 yJ2_length_9d52b ∈ kp_wl := kp_t2 (i := 108) rfl rfl
theorem q2_109 : Cond.static yJ2_length_9d52b ∈ kp_wl := kp_t2 (i := 109) rfl rfl
theorem q2_110 : Cond.code yJ2_length_9d52b cJ2_length_9d52b 1 (some .int) ∈ kp_wl := kp_t2 (i := 110) rfl rfl
theorem q2_111 : Cond.methodLink "java/lang/StringUTF16" 414 yJ0_checkIndex_df160 ∈ kp_wl := kp_t2 (i := 111) rfl rfl
theorem q2_112 : Cond.methodLink "java/lang/StringUTF16" 71 yJ2_getChar_3b067 ∈ kp_wl := kp_t2 (i := 112) rfl rfl
theorem q2_113 : Cond.static yJ2_getChar_3b067 ∈ kp_wl := kp_t2 (i := 113) rfl rfl
theorem q2_114 : Cond.code yJ2_getChar_3b067 cJ2_getChar_3b067 2 (some .char) ∈ kp_wl := kp_t2 (i := 114) rfl rfl
theorem q2_115 : Cond.fieldLink "java/lang/StringUTF16" 44 "java/lang/StringUTF16" "$assertionsDisabled" "Z" ∈ kp_wl := kp_t2 (i := 115) rfl rfl
theorem q2_117 : Cond.fieldLink "java/lang/StringUTF16" 59 "java/lang/StringUTF16" "HI_BYTE_SHIFT" "I" ∈ kp_wl := kp_t2 (i := 117) rfl rfl
theorem q2_119 : Cond.fieldLink "java/lang/StringUTF16" 63 "java/lang/StringUTF16" "LO_BYTE_SHIFT" "I" ∈ kp_wl := kp_t2 (i := 119) rfl rfl
theorem q2_121 : Cond.methodLink "KnockPipes$Reader" 51 yX5_peek ∈ kp_wl := kp_t2 (i := 121) rfl rfl
theorem q2_123 : Cond.instanceMethod yX5_peek ∈ kp_wl := kp_t2 (i := 123) rfl rfl
theorem q2_124 : Cond.code yX5_peek cX5_peek 1 (some .int) ∈ kp_wl := kp_t2 (i := 124) rfl rfl
theorem q2_125 : Cond.methodLink "KnockPipes$Reader" 43 yX5_eats ∈ kp_wl := kp_t2 (i := 125) rfl rfl
theorem q2_127 : Cond.instanceMethod yX5_eats ∈ kp_wl := kp_t2 (i := 127) rfl rfl
theorem q2_128 : Cond.code yX5_eats cX5_eats 2 (some .boolean) ∈ kp_wl := kp_t2 (i := 128) rfl rfl
theorem q2_129 : Cond.methodLink "KnockPipes$Reader" 58 yX5_number ∈ kp_wl := kp_t2 (i := 129) rfl rfl
theorem q2_131 : Cond.instanceMethod yX5_number ∈ kp_wl := kp_t2 (i := 131) rfl rfl
theorem q2_132 : Cond.code yX5_number cX5_number 3 (some .int) ∈ kp_wl := kp_t2 (i := 132) rfl rfl
theorem q2_133 : Cond.methodLink "KnockPipes$Reader" 80 yX5_digit ∈ kp_wl := kp_t2 (i := 133) rfl rfl
theorem q2_135 : Cond.instanceMethod yX5_digit ∈ kp_wl := kp_t2 (i := 135) rfl rfl
theorem q2_136 : Cond.code yX5_digit cX5_digit 2 (some .int) ∈ kp_wl := kp_t2 (i := 136) rfl rfl
theorem q2_137 : Cond.methodLink "KnockPipes$Reader" 64 yX5_either ∈ kp_wl := kp_t2 (i := 137) rfl rfl
theorem q2_139 : Cond.instanceMethod yX5_either ∈ kp_wl := kp_t2 (i := 139) rfl rfl
theorem q2_140 : Cond.code yX5_either cX5_either 3 (some .boolean) ∈ kp_wl := kp_t2 (i := 140) rfl rfl
theorem q2_141 : Cond.methodLink "KnockPipes$Reader" 83 yX5_both ∈ kp_wl := kp_t2 (i := 141) rfl rfl
theorem q2_143 : Cond.instanceMethod yX5_both ∈ kp_wl := kp_t2 (i := 143) rfl rfl
theorem q2_144 : Cond.code yX5_both cX5_both 3 (some .boolean) ∈ kp_wl := kp_t2 (i := 144) rfl rfl
theorem q2_145 : Cond.methodLink "KnockPipes$Reader" 90 yX5_factor ∈ kp_wl := kp_t2 (i := 145) rfl rfl
theorem q2_147 : Cond.instanceMethod yX5_factor ∈ kp_wl := kp_t2 (i := 147) rfl rfl
theorem q2_148 : Cond.code yX5_factor cX5_factor 4 (some .boolean) ∈ kp_wl := kp_t2 (i := 148) rfl rfl
theorem q2_149 : Cond.methodLink "KnockPipes$Reader" 93 yX5_test ∈ kp_wl := kp_t2 (i := 149) rfl rfl
theorem q2_151 : Cond.instanceMethod yX5_test ∈ kp_wl := kp_t2 (i := 151) rfl rfl
theorem q2_152 : Cond.code yX5_test cX5_test 4 (some .boolean) ∈ kp_wl := kp_t2 (i := 152) rfl rfl
theorem q2_154 : Cond.methodLink "KnockPipes$Reader" 100 yX5_oneOf ∈ kp_wl := kp_t2 (i := 154) rfl rfl
theorem q2_156 : Cond.instanceMethod yX5_oneOf ∈ kp_wl := kp_t2 (i := 156) rfl rfl
theorem q2_157 : Cond.code yX5_oneOf cX5_oneOf 4 (some .int) ∈ kp_wl := kp_t2 (i := 157) rfl rfl
theorem q2_158 : Cond.methodLink "KnockPipes$Reader" 110 yJ0_length_8abf5 ∈ kp_wl := kp_t2 (i := 158) rfl rfl
theorem q2_159 : Cond.instanceMethod yJ0_length_8abf5 ∈ kp_wl := kp_t2 (i := 159) rfl rfl
theorem q2_160 : Cond.selects "java/lang/String" yJ0_length_8abf5 yJ0_length_8abf5 ∈ kp_wl := kp_t2 (i := 160) rfl rfl
theorem q2_161 : Cond.code yJ0_length_8abf5 cJ0_length_8abf5 1 (some .int) ∈ kp_wl := kp_t2 (i := 161) rfl rfl
theorem q2_162 : Cond.methodLink "java/lang/String" 335 yJ0_coder_7d493 ∈ kp_wl := kp_t2 (i := 162) rfl rfl
theorem q2_163 : Cond.instanceMethod yJ0_coder_7d493 ∈ kp_wl := kp_t2 (i := 163) rfl rfl
theorem q2_164 : Cond.selects "java/lang/String" yJ0_coder_7d493 yJ0_coder_7d493 ∈ kp_wl := kp_t2 (i := 164) rfl rfl
theorem q2_165 : Cond.code yJ0_coder_7d493 cJ0_coder_7d493 1 (some .byte) ∈ kp_wl := kp_t2 (i := 165) rfl rfl
theorem q2_167 : Cond.methodLink "KnockPipes$Reader" 106 yX8_code ∈ kp_wl := kp_t2 (i := 167) rfl rfl
theorem q2_168 : Cond.static yX8_code ∈ kp_wl := kp_t2 (i := 168) rfl rfl
theorem q2_169 : Cond.code yX8_code cX8_code 3 (some .int) ∈ kp_wl := kp_t2 (i := 169) rfl rfl
theorem q2_170 : Cond.methodLink "KnockPipes$Reader" 86 yX2_put ∈ kp_wl := kp_t2 (i := 170) rfl rfl
theorem q2_171 : Cond.instanceMethod yX2_put ∈ kp_wl := kp_t2 (i := 171) rfl rfl
theorem q2_172 : Cond.selects "KnockPipes$House" yX2_put yX2_put ∈ kp_wl := kp_t2 (i := 172) rfl rfl
theorem q2_173 : Cond.code yX2_put cX2_put 2 none ∈ kp_wl := kp_t2 (i := 173) rfl rfl
theorem q2_174 : Cond.methodLink "KnockPipes$Reader" 68 yX2_close ∈ kp_wl := kp_t2 (i := 174) rfl rfl
theorem q2_175 : Cond.instanceMethod yX2_close ∈ kp_wl := kp_t2 (i := 175) rfl rfl
theorem q2_176 : Cond.selects "KnockPipes$House" yX2_close yX2_close ∈ kp_wl := kp_t2 (i := 176) rfl rfl
theorem q2_177 : Cond.code yX2_close cX2_close 3 none ∈ kp_wl := kp_t2 (i := 177) rfl rfl
theorem q2_178 : Cond.methodLink "KnockPipes" 94 yX2_copy ∈ kp_wl := kp_t2 (i := 178) rfl rfl
theorem q2_179 : Cond.instanceMethod yX2_copy ∈ kp_wl := kp_t2 (i := 179) rfl rfl
theorem q2_180 : Cond.selects "KnockPipes$House" yX2_copy yX2_copy ∈ kp_wl := kp_t2 (i := 180) rfl rfl
theorem q2_181 : Cond.code yX2_copy cX2_copy 2 none ∈ kp_wl := kp_t2 (i := 181) rfl rfl
theorem q2_182 : Cond.arrayClass .byte ∈ kp_wl := kp_t2 (i := 182) rfl rfl
theorem q2_183 : Cond.methodLink "KnockPipesLaw" 30 yX9_told ∈ kp_wl := kp_t2 (i := 183) rfl rfl
theorem q2_184 : Cond.instanceMethod yX9_told ∈ kp_wl := kp_t2 (i := 184) rfl rfl
theorem q2_185 : Cond.selects "KnockPipes" yX9_told yX9_told ∈ kp_wl := kp_t2 (i := 185) rfl rfl
theorem q2_186 : Cond.code yX9_told cX9_told 2 (some .int) ∈ kp_wl := kp_t2 (i := 186) rfl rfl
theorem q2_187 : Cond.methodLink "KnockPipesLaw" 35 yX9_warmth ∈ kp_wl := kp_t2 (i := 187) rfl rfl
theorem q2_188 : Cond.instanceMethod yX9_warmth ∈ kp_wl := kp_t2 (i := 188) rfl rfl
theorem q2_189 : Cond.selects "KnockPipes" yX9_warmth yX9_warmth ∈ kp_wl := kp_t2 (i := 189) rfl rfl
theorem q2_190 : Cond.code yX9_warmth cX9_warmth 2 (some .int) ∈ kp_wl := kp_t2 (i := 190) rfl rfl
theorem q2_191 : Cond.methodLink "KnockPipes" 103 yX9_isMinute ∈ kp_wl := kp_t2 (i := 191) rfl rfl
theorem q2_192 : Cond.static yX9_isMinute ∈ kp_wl := kp_t2 (i := 192) rfl rfl
theorem q2_193 : Cond.code yX9_isMinute cX9_isMinute 1 (some .boolean) ∈ kp_wl := kp_t2 (i := 193) rfl rfl
theorem q2_194 : Cond.methodLink "KnockPipes" 107 yX9_settle ∈ kp_wl := kp_t2 (i := 194) rfl rfl
theorem q2_196 : Cond.instanceMethod yX9_settle ∈ kp_wl := kp_t2 (i := 196) rfl rfl
theorem q2_197 : Cond.code yX9_settle cX9_settle 2 none ∈ kp_wl := kp_t2 (i := 197) rfl rfl
theorem q2_198 : Cond.methodLink "KnockPipes" 239 yX6_read ∈ kp_wl := kp_t2 (i := 198) rfl rfl
theorem q2_199 : Cond.instanceMethod yX6_read ∈ kp_wl := kp_t2 (i := 199) rfl rfl
theorem q2_200 : Cond.selects "KnockPipes$Sounds" yX6_read yX6_read ∈ kp_wl := kp_t2 (i := 200) rfl rfl
theorem q2_201 : Cond.code yX6_read cX6_read 8 none ∈ kp_wl := kp_t2 (i := 201) rfl rfl
theorem q2_202 : Cond.constantLong "KnockPipes$Sounds" 40 (1099511627775) ∈ kp_wl := kp_t2 (i := 202) rfl rfl
theorem q2_203 : Cond.methodLink "KnockPipes$Sounds" 51 yX6_holds ∈ kp_wl := kp_t2 (i := 203) rfl rfl
theorem q2_205 : Cond.instanceMethod yX6_holds ∈ kp_wl := kp_t2 (i := 205) rfl rfl
theorem q2_206 : Cond.code yX6_holds cX6_holds 9 (some .long) ∈ kp_wl := kp_t2 (i := 206) rfl rfl
theorem q2_207 : Cond.methodLink "KnockPipes$Sounds" 71 yX6_minutesOf ∈ kp_wl := kp_t2 (i := 207) rfl rfl
theorem q2_208 : Cond.static yX6_minutesOf ∈ kp_wl := kp_t2 (i := 208) rfl rfl
theorem q2_209 : Cond.code yX6_minutesOf cX6_minutesOf 4 (some .long) ∈ kp_wl := kp_t2 (i := 209) rfl rfl
theorem q2_210 : Cond.methodLink "KnockPipes$Sounds" 75 yX8_subject ∈ kp_wl := kp_t2 (i := 210) rfl rfl
theorem q2_211 : Cond.static yX8_subject ∈ kp_wl := kp_t2 (i := 211) rfl rfl
theorem q2_212 : Cond.code yX8_subject cX8_subject 1 (some .int) ∈ kp_wl := kp_t2 (i := 212) rfl rfl
theorem q2_213 : Cond.methodLink "KnockPipes$Sounds" 92 yX8_minutes ∈ kp_wl := kp_t2 (i := 213) rfl rfl
theorem q2_214 : Cond.static yX8_minutes ∈ kp_wl := kp_t2 (i := 214) rfl rfl
theorem q2_215 : Cond.code yX8_minutes cX8_minutes 6 (some .long) ∈ kp_wl := kp_t2 (i := 215) rfl rfl
theorem q2_216 : Cond.methodLink "KnockPipes$Test" 9 yX8_number ∈ kp_wl := kp_t2 (i := 216) rfl rfl
theorem q2_217 : Cond.static yX8_number ∈ kp_wl := kp_t2 (i := 217) rfl rfl
theorem q2_218 : Cond.code yX8_number cX8_number 1 (some .int) ∈ kp_wl := kp_t2 (i := 218) rfl rfl
theorem q2_219 : Cond.constantLong "KnockPipes$Test" 24 (1099511627775) ∈ kp_wl := kp_t2 (i := 219) rfl rfl
theorem q2_220 : Cond.methodLink "KnockPipes$Test" 21 yX8_sign ∈ kp_wl := kp_t2 (i := 220) rfl rfl
theorem q2_221 : Cond.static yX8_sign ∈ kp_wl := kp_t2 (i := 221) rfl rfl
theorem q2_222 : Cond.code yX8_sign cX8_sign 1 (some .int) ∈ kp_wl := kp_t2 (i := 222) rfl rfl
theorem q2_223 : Cond.constantLong "KnockPipes$Test" 26 (-1) ∈ kp_wl := kp_t2 (i := 223) rfl rfl
theorem q2_224 : Cond.methodLink "KnockPipes$Sounds" 96 yX8_holds ∈ kp_wl := kp_t2 (i := 224) rfl rfl
theorem q2_225 : Cond.static yX8_holds ∈ kp_wl := kp_t2 (i := 225) rfl rfl
theorem q2_226 : Cond.code yX8_holds cX8_holds 3 (some .boolean) ∈ kp_wl := kp_t2 (i := 226) rfl rfl
theorem q2_227 : Cond.methodLink "KnockPipes$Test" 15 yJ6_compare_7cf53 ∈ kp_wl := kp_t2 (i := 227) rfl rfl
theorem q2_228 : Cond.static yJ6_compare_7cf53 ∈ kp_wl := kp_t2 (i := 228) rfl rfl
theorem q2_229 : Cond.code yJ6_compare_7cf53 cJ6_compare_7cf53 2 (some .int) ∈ kp_wl := kp_t2 (i := 229) rfl rfl
theorem q2_230 : Cond.constantLong "KnockPipes$Sounds" 55 (-1) ∈ kp_wl := kp_t2 (i := 230) rfl rfl
theorem q2_231 : Cond.methodLink "KnockPipes$Sounds" 64 yX6_addTo ∈ kp_wl := kp_t2 (i := 231) rfl rfl
theorem q2_232 : Cond.static yX6_addTo ∈ kp_wl := kp_t2 (i := 232) rfl rfl
theorem q2_233 : Cond.code yX6_addTo cX6_addTo 6 none ∈ kp_wl := kp_t2 (i := 233) rfl rfl
theorem q2_234 : Cond.methodLink "KnockPipes" 235 yX9_ring ∈ kp_wl := kp_t2 (i := 234) rfl rfl
theorem q2_236 : Cond.instanceMethod yX9_ring ∈ kp_wl := kp_t2 (i := 236) rfl rfl
theorem q2_237 : Cond.code yX9_ring cX9_ring 8 none ∈ kp_wl := kp_t2 (i := 237) rfl rfl
theorem q2_238 : Cond.methodLink "KnockPipes" 269 yX6_warm ∈ kp_wl := kp_t2 (i := 238) rfl rfl
theorem q2_239 : Cond.instanceMethod yX6_warm ∈ kp_wl := kp_t2 (i := 239) rfl rfl
theorem q3_0 : Cond.selects "KnockPipes$Sounds" yX6_warm yX6_warm ∈ kp_wl := kp_t3 (i := 0) rfl rfl
theorem q3_1 : Cond.code yX6_warm cX6_warm 8 none ∈ kp_wl := kp_t3 (i := 1) rfl rfl
theorem q3_2 : Cond.methodLink "KnockPipes$Sounds" 102 yJ9_min_7cf53 ∈ kp_wl := kp_t3 (i := 2) rfl rfl
theorem q3_3 : Cond.static yJ9_min_7cf53 ∈ kp_wl := kp_t3 (i := 3) rfl rfl
theorem q3_4 : Cond.code yJ9_min_7cf53 cJ9_min_7cf53 2 (some .int) ∈ kp_wl := kp_t3 (i := 4) rfl rfl
theorem q3_5 : Cond.methodLink "KnockPipes$Sounds" 31 yJ9_max_7cf53 ∈ kp_wl := kp_t3 (i := 5) rfl rfl
theorem q3_6 : Cond.static yJ9_max_7cf53 ∈ kp_wl := kp_t3 (i := 6) rfl rfl
theorem q3_7 : Cond.code yJ9_max_7cf53 cJ9_max_7cf53 2 (some .int) ∈ kp_wl := kp_t3 (i := 7) rfl rfl
theorem q3_8 : Cond.methodLink "KnockPipes" 243 yX6_knock ∈ kp_wl := kp_t3 (i := 8) rfl rfl
theorem q3_9 : Cond.instanceMethod yX6_knock ∈ kp_wl := kp_t3 (i := 9) rfl rfl
theorem q3_10 : Cond.selects "KnockPipes$Sounds" yX6_knock yX6_knock ∈ kp_wl := kp_t3 (i := 10) rfl rfl
theorem q3_11 : Cond.code yX6_knock cX6_knock 12 none ∈ kp_wl := kp_t3 (i := 11) rfl rfl
theorem q3_12 : Cond.methodLink "KnockPipes$Sounds" 105 yX6_tick ∈ kp_wl := kp_t3 (i := 12) rfl rfl
theorem q3_14 : Cond.instanceMethod yX6_tick ∈ kp_wl := kp_t3 (i := 14) rfl rfl
theorem q3_15 : Cond.code yX6_tick cX6_tick 8 none ∈ kp_wl := kp_t3 (i := 15) rfl rfl
theorem q3_16 : Cond.methodLink "KnockPipes$Sounds" 119 yX6_lengthOf ∈ kp_wl := kp_t3 (i := 16) rfl rfl
theorem q3_17 : Cond.instanceMethod yX6_lengthOf ∈ kp_wl := kp_t3 (i := 17) rfl rfl
theorem q3_18 : Cond.selects "KnockPipes$Sounds" yX6_lengthOf yX6_lengthOf ∈ kp_wl := kp_t3 (i := 18) rfl rfl
theorem q3_19 : Cond.code yX6_lengthOf cX6_lengthOf 3 (some .int) ∈ kp_wl := kp_t3 (i := 19) rfl rfl
theorem q3_20 : Cond.methodLink "KnockPipes$Sounds" 122 yJ9_abs_0f7a4 ∈ kp_wl := kp_t3 (i := 20) rfl rfl
theorem q3_21 : Cond.static yJ9_abs_0f7a4 ∈ kp_wl := kp_t3 (i := 21) rfl rfl
theorem q3_22 : Cond.code yJ9_abs_0f7a4 cJ9_abs_0f7a4 1 (some .int) ∈ kp_wl := kp_t3 (i := 22) rfl rfl
theorem q3_23 : Cond.methodLink "KnockPipes$Sounds" 125 yX6_holdOf ∈ kp_wl := kp_t3 (i := 23) rfl rfl
theorem q3_24 : Cond.instanceMethod yX6_holdOf ∈ kp_wl := kp_t3 (i := 24) rfl rfl
theorem q3_25 : Cond.selects "KnockPipes$Sounds" yX6_holdOf yX6_holdOf ∈ kp_wl := kp_t3 (i := 25) rfl rfl
theorem q3_26 : Cond.code yX6_holdOf cX6_holdOf 3 (some .int) ∈ kp_wl := kp_t3 (i := 26) rfl rfl
theorem q3_27 : Cond.methodLink "KnockPipes$Sounds" 109 yX6_mark ∈ kp_wl := kp_t3 (i := 27) rfl rfl
theorem q3_29 : Cond.instanceMethod yX6_mark ∈ kp_wl := kp_t3 (i := 29) rfl rfl
theorem q3_30 : Cond.code yX6_mark cX6_mark 9 none ∈ kp_wl := kp_t3 (i := 30) rfl rfl
theorem q3_31 : Cond.methodLink "KnockPipes$Sounds" 113 yX6_lasting ∈ kp_wl := kp_t3 (i := 31) rfl rfl
theorem q3_32 : Cond.static yX6_lasting ∈ kp_wl := kp_t3 (i := 32) rfl rfl
theorem q3_33 : Cond.code yX6_lasting cX6_lasting 6 (some .long) ∈ kp_wl := kp_t3 (i := 33) rfl rfl
theorem q3_34 : Cond.constantLong "KnockPipes$Sounds" 117 (1074791425) ∈ kp_wl := kp_t3 (i := 34) rfl rfl
theorem q3_35 : Cond.methodLink "KnockPipesLaw" 39 yX9_noise ∈ kp_wl := kp_t3 (i := 35) rfl rfl
theorem q3_36 : Cond.instanceMethod yX9_noise ∈ kp_wl := kp_t3 (i := 36) rfl rfl
theorem q3_37 : Cond.selects "KnockPipes" yX9_noise yX9_noise ∈ kp_wl := kp_t3 (i := 37) rfl rfl
theorem q3_38 : Cond.code yX9_noise cX9_noise 5 (some .int) ∈ kp_wl := kp_t3 (i := 38) rfl rfl
theorem q3_39 : Cond.methodLink "KnockPipes" 113 yX9_isKind ∈ kp_wl := kp_t3 (i := 39) rfl rfl
theorem q3_40 : Cond.static yX9_isKind ∈ kp_wl := kp_t3 (i := 40) rfl rfl
theorem q3_41 : Cond.code yX9_isKind cX9_isKind 1 (some .boolean) ∈ kp_wl := kp_t3 (i := 41) rfl rfl
theorem q3_42 : Cond.methodLink "KnockPipes" 116 yX9_isPlace ∈ kp_wl := kp_t3 (i := 42) rfl rfl
theorem q3_43 : Cond.static yX9_isPlace ∈ kp_wl := kp_t3 (i := 43) rfl rfl
theorem q3_44 : Cond.code yX9_isPlace cX9_isPlace 1 (some .boolean) ∈ kp_wl := kp_t3 (i := 44) rfl rfl
theorem q3_45 : Cond.methodLink "KnockPipes" 128 yX3_add ∈ kp_wl := kp_t3 (i := 45) rfl rfl
theorem q3_46 : Cond.instanceMethod yX3_add ∈ kp_wl := kp_t3 (i := 46) rfl rfl
theorem q3_47 : Cond.selects "KnockPipes$Noises" yX3_add yX3_add ∈ kp_wl := kp_t3 (i := 47) rfl rfl
theorem q3_48 : Cond.code yX3_add cX3_add 5 (some .int) ∈ kp_wl := kp_t3 (i := 48) rfl rfl
theorem q3_49 : Cond.methodLink "KnockPipesLaw" 44 yX9_of ∈ kp_wl := kp_t3 (i := 49) rfl rfl
theorem q3_50 : Cond.instanceMethod yX9_of ∈ kp_wl := kp_t3 (i := 50) rfl rfl
theorem q3_51 : Cond.selects "KnockPipes" yX9_of yX9_of ∈ kp_wl := kp_t3 (i := 51) rfl rfl
theorem q3_52 : Cond.code yX9_of cX9_of 3 (some .int) ∈ kp_wl := kp_t3 (i := 52) rfl rfl
theorem q3_53 : Cond.methodLink "KnockPipes" 131 yX3_has ∈ kp_wl := kp_t3 (i := 53) rfl rfl
theorem q3_54 : Cond.instanceMethod yX3_has ∈ kp_wl := kp_t3 (i := 54) rfl rfl
theorem q3_55 : Cond.selects "KnockPipes$Noises" yX3_has yX3_has ∈ kp_wl := kp_t3 (i := 55) rfl rfl
theorem q3_56 : Cond.code yX3_has cX3_has 2 (some .boolean) ∈ kp_wl := kp_t3 (i := 56) rfl rfl
theorem q3_57 : Cond.methodLink "KnockPipesLaw" 49 yX9_still ∈ kp_wl := kp_t3 (i := 57) rfl rfl
theorem q3_58 : Cond.instanceMethod yX9_still ∈ kp_wl := kp_t3 (i := 58) rfl rfl
theorem q3_59 : Cond.selects "KnockPipes" yX9_still yX9_still ∈ kp_wl := kp_t3 (i := 59) rfl rfl
theorem q3_60 : Cond.code yX9_still cX9_still 4 (some .int) ∈ kp_wl := kp_t3 (i := 60) rfl rfl
theorem q3_61 : Cond.methodLink "KnockPipesLaw" 54 yX9_knocks ∈ kp_wl := kp_t3 (i := 61) rfl rfl
theorem q3_62 : Cond.instanceMethod yX9_knocks ∈ kp_wl := kp_t3 (i := 62) rfl rfl
theorem q3_63 : Cond.selects "KnockPipes" yX9_knocks yX9_knocks ∈ kp_wl := kp_t3 (i := 63) rfl rfl
theorem q3_64 : Cond.code yX9_knocks cX9_knocks 4 (some .int) ∈ kp_wl := kp_t3 (i := 64) rfl rfl
theorem q3_65 : Cond.methodLink "KnockPipes" 149 yX6_lengthOf ∈ kp_wl := kp_t3 (i := 65) rfl rfl
theorem q3_66 : Cond.methodLink "KnockPipes" 153 yX6_holdOf ∈ kp_wl := kp_t3 (i := 66) rfl rfl
theorem q3_67 : Cond.methodLink "KnockPipes" 156 yX3_isLoose ∈ kp_wl := kp_t3 (i := 67) rfl rfl
theorem q3_68 : Cond.instanceMethod yX3_isLoose ∈ kp_wl := kp_t3 (i := 68) rfl rfl
theorem q3_69 : Cond.selects "KnockPipes$Noises" yX3_isLoose yX3_isLoose ∈ kp_wl := kp_t3 (i := 69) rfl rfl
theorem q3_70 : Cond.code yX3_isLoose cX3_isLoose 2 (some .boolean) ∈ kp_wl := kp_t3 (i := 70) rfl rfl
theorem q3_71 : Cond.methodLink "KnockPipes" 159 yX6_knocksOf ∈ kp_wl := kp_t3 (i := 71) rfl rfl
theorem q3_72 : Cond.instanceMethod yX6_knocksOf ∈ kp_wl := kp_t3 (i := 72) rfl rfl
theorem q3_73 : Cond.selects "KnockPipes$Sounds" yX6_knocksOf yX6_knocksOf ∈ kp_wl := kp_t3 (i := 73) rfl rfl
theorem q3_74 : Cond.code yX6_knocksOf cX6_knocksOf 3 (some .int) ∈ kp_wl := kp_t3 (i := 74) rfl rfl
theorem q3_75 : Cond.methodLink "KnockPipesLaw" 59 yX9_loud ∈ kp_wl := kp_t3 (i := 75) rfl rfl
theorem q3_76 : Cond.instanceMethod yX9_loud ∈ kp_wl := kp_t3 (i := 76) rfl rfl
theorem q3_77 : Cond.selects "KnockPipes" yX9_loud yX9_loud ∈ kp_wl := kp_t3 (i := 77) rfl rfl
theorem q3_78 : Cond.code yX9_loud cX9_loud 4 (some .int) ∈ kp_wl := kp_t3 (i := 78) rfl rfl
theorem q3_79 : Cond.methodLink "KnockPipes" 162 yX9_loudOf ∈ kp_wl := kp_t3 (i := 79) rfl rfl
theorem q3_81 : Cond.instanceMethod yX9_loudOf ∈ kp_wl := kp_t3 (i := 81) rfl rfl
theorem q3_82 : Cond.code yX9_loudOf cX9_loudOf 7 (some .int) ∈ kp_wl := kp_t3 (i := 82) rfl rfl
theorem q3_83 : Cond.methodLink "KnockPipes" 273 yJ9_abs_0f7a4 ∈ kp_wl := kp_t3 (i := 83) rfl rfl
theorem q3_84 : Cond.methodLink "KnockPipes" 221 yJ9_max_7cf53 ∈ kp_wl := kp_t3 (i := 84) rfl rfl
theorem q3_85 : Cond.methodLink "KnockPipes" 217 yX9_isUnder ∈ kp_wl := kp_t3 (i := 85) rfl rfl
theorem q3_86 : Cond.static yX9_isUnder ∈ kp_wl := kp_t3 (i := 86) rfl rfl
theorem q3_87 : Cond.code yX9_isUnder cX9_isUnder 4 (some .boolean) ∈ kp_wl := kp_t3 (i := 87) rfl rfl
theorem q3_88 : Cond.fieldLink "KnockPipes" 266 "KnockPipes" "ABOVE" "[I" ∈ kp_wl := kp_t3 (i := 88) rfl rfl
theorem q3_90 : Cond.methodLink "KnockPipesLaw" 63 yX9_heard ∈ kp_wl := kp_t3 (i := 90) rfl rfl
theorem q3_91 : Cond.instanceMethod yX9_heard ∈ kp_wl := kp_t3 (i := 91) rfl rfl
theorem q3_92 : Cond.selects "KnockPipes" yX9_heard yX9_heard ∈ kp_wl := kp_t3 (i := 92) rfl rfl
theorem q3_93 : Cond.code yX9_heard cX9_heard 3 (some .int) ∈ kp_wl := kp_t3 (i := 93) rfl rfl
theorem q3_94 : Cond.methodLink "KnockPipes" 165 yX9_heardInDay ∈ kp_wl := kp_t3 (i := 94) rfl rfl
theorem q3_96 : Cond.instanceMethod yX9_heardInDay ∈ kp_wl := kp_t3 (i := 96) rfl rfl
theorem q3_97 : Cond.code yX9_heardInDay cX9_heardInDay 4 (some .int) ∈ kp_wl := kp_t3 (i := 97) rfl rfl
theorem q3_98 : Cond.methodLink "KnockPipes" 169 yX9_heardAt ∈ kp_wl := kp_t3 (i := 98) rfl rfl
theorem q3_100 : Cond.instanceMethod yX9_heardAt ∈ kp_wl := kp_t3 (i := 100) rfl rfl
theorem q3_101 : Cond.code yX9_heardAt cX9_heardAt 5 (some .int) ∈ kp_wl := kp_t3 (i := 101) rfl rfl
theorem q3_102 : Cond.methodLink "KnockPipes" 276 yX9_heardAlone ∈ kp_wl := kp_t3 (i := 102) rfl rfl
theorem q3_104 : Cond.instanceMethod yX9_heardAlone ∈ kp_wl := kp_t3 (i := 104) rfl rfl
theorem q3_105 : Cond.code yX9_heardAlone cX9_heardAlone 4 (some .int) ∈ kp_wl := kp_t3 (i := 105) rfl rfl
theorem q3_106 : Cond.methodLink "KnockPipes" 226 yX9_heardOf ∈ kp_wl := kp_t3 (i := 106) rfl rfl
theorem q3_108 : Cond.instanceMethod yX9_heardOf ∈ kp_wl := kp_t3 (i := 108) rfl rfl
theorem q3_109 : Cond.code yX9_heardOf cX9_heardOf 5 (some .int) ∈ kp_wl := kp_t3 (i := 109) rfl rfl
theorem q3_110 : Cond.methodLink "KnockPipesLaw" 67 yX9_seems ∈ kp_wl := kp_t3 (i := 110) rfl rfl
theorem q3_111 : Cond.instanceMethod yX9_seems ∈ kp_wl := kp_t3 (i := 111) rfl rfl
theorem q3_112 : Cond.selects "KnockPipes" yX9_seems yX9_seems ∈ kp_wl := kp_t3 (i := 112) rfl rfl
theorem q3_113 : Cond.code yX9_seems cX9_seems 6 (some .int) ∈ kp_wl := kp_t3 (i := 113) rfl rfl
theorem q3_114 : Cond.methodLink "KnockPipes" 172 yX9_loudOfAll ∈ kp_wl := kp_t3 (i := 114) rfl rfl
theorem q3_116 : Cond.instanceMethod yX9_loudOfAll ∈ kp_wl := kp_t3 (i := 116) rfl rfl
theorem q3_117 : Cond.code yX9_loudOfAll cX9_loudOfAll 6 (some .int) ∈ kp_wl := kp_t3 (i := 117) rfl rfl
theorem q3_118 : Cond.methodLink "KnockPipesLaw" 71 yX9_note ∈ kp_wl := kp_t3 (i := 118) rfl rfl
theorem q3_119 : Cond.instanceMethod yX9_note ∈ kp_wl := kp_t3 (i := 119) rfl rfl
theorem q3_120 : Cond.selects "KnockPipes" yX9_note yX9_note ∈ kp_wl := kp_t3 (i := 120) rfl rfl
theorem q3_121 : Cond.code yX9_note cX9_note 4 (some .int) ∈ kp_wl := kp_t3 (i := 121) rfl rfl
theorem q3_122 : Cond.methodLink "KnockPipes" 182 yX4_add ∈ kp_wl := kp_t3 (i := 122) rfl rfl
theorem q3_123 : Cond.instanceMethod yX4_add ∈ kp_wl := kp_t3 (i := 123) rfl rfl
theorem q3_124 : Cond.selects "KnockPipes$Notebook" yX4_add yX4_add ∈ kp_wl := kp_t3 (i := 124) rfl rfl
theorem q3_125 : Cond.code yX4_add cX4_add 4 (some .int) ∈ kp_wl := kp_t3 (i := 125) rfl rfl
theorem q3_126 : Cond.methodLink "KnockPipesLaw" 75 yX9_clear ∈ kp_wl := kp_t3 (i := 126) rfl rfl
theorem q3_127 : Cond.instanceMethod yX9_clear ∈ kp_wl := kp_t3 (i := 127) rfl rfl
theorem q3_128 : Cond.selects "KnockPipes" yX9_clear yX9_clear ∈ kp_wl := kp_t3 (i := 128) rfl rfl
theorem q3_129 : Cond.code yX9_clear cX9_clear 2 (some .int) ∈ kp_wl := kp_t3 (i := 129) rfl rfl
theorem q3_130 : Cond.methodLink "KnockPipesLaw" 79 yX9_fits ∈ kp_wl := kp_t3 (i := 130) rfl rfl
theorem q3_131 : Cond.instanceMethod yX9_fits ∈ kp_wl := kp_t3 (i := 131) rfl rfl
theorem q3_132 : Cond.selects "KnockPipes" yX9_fits yX9_fits ∈ kp_wl := kp_t3 (i := 132) rfl rfl
theorem q3_133 : Cond.code yX9_fits cX9_fits 2 (some .int) ∈ kp_wl := kp_t3 (i := 133) rfl rfl
theorem q3_134 : Cond.methodLink "KnockPipes" 185 yX9_fittingRows ∈ kp_wl := kp_t3 (i := 134) rfl rfl
theorem q3_136 : Cond.instanceMethod yX9_fittingRows ∈ kp_wl := kp_t3 (i := 136) rfl rfl
theorem q3_137 : Cond.code yX9_fittingRows cX9_fittingRows 4 (some .int) ∈ kp_wl := kp_t3 (i := 137) rfl rfl
theorem q3_138 : Cond.methodLink "KnockPipesLaw" 83 yX9_odds ∈ kp_wl := kp_t3 (i := 138) rfl rfl
theorem q3_139 : Cond.instanceMethod yX9_odds ∈ kp_wl := kp_t3 (i := 139) rfl rfl
theorem q3_140 : Cond.selects "KnockPipes" yX9_odds yX9_odds ∈ kp_wl := kp_t3 (i := 140) rfl rfl
theorem q3_141 : Cond.code yX9_odds cX9_odds 6 (some .int) ∈ kp_wl := kp_t3 (i := 141) rfl rfl
theorem q3_142 : Cond.methodLink "KnockPipes" 188 yJ6_bitCount_0f7a4 ∈ kp_wl := kp_t3 (i := 142) rfl rfl
theorem q3_143 : Cond.static yJ6_bitCount_0f7a4 ∈ kp_wl := kp_t3 (i := 143) rfl rfl
theorem q3_144 : Cond.code yJ6_bitCount_0f7a4 cJ6_bitCount_0f7a4 1 (some .int) ∈ kp_wl := kp_t3 (i := 144) rfl rfl
theorem q3_145 : Cond.constant "java/lang/Integer" 265 (1431655765) ∈ kp_wl := kp_t3 (i := 145) rfl rfl
theorem q3_146 : Cond.constant "java/lang/Integer" 266 (858993459) ∈ kp_wl := kp_t3 (i := 146) rfl rfl
theorem q3_147 : Cond.constant "java/lang/Integer" 267 (252645135) ∈ kp_wl := kp_t3 (i := 147) rfl rfl
theorem q3_148 : Cond.methodLink "KnockPipes" 192 yX9_greatestShared ∈ kp_wl := kp_t3 (i := 148) rfl rfl
theorem q3_149 : Cond.static yX9_greatestShared ∈ kp_wl := kp_t3 (i := 149) rfl rfl
theorem q3_150 : Cond.code yX9_greatestShared cX9_greatestShared 6 (some .int) ∈ kp_wl := kp_t3 (i := 150) rfl rfl
theorem q3_151 : Cond.methodLink "KnockPipesLaw" 87 yX9_which ∈ kp_wl := kp_t3 (i := 151) rfl rfl
theorem q3_152 : Cond.instanceMethod yX9_which ∈ kp_wl := kp_t3 (i := 152) rfl rfl
theorem q3_153 : Cond.selects "KnockPipes" yX9_which yX9_which ∈ kp_wl := kp_t3 (i := 153) rfl rfl
theorem q3_154 : Cond.code yX9_which cX9_which 2 (some .int) ∈ kp_wl := kp_t3 (i := 154) rfl rfl
theorem q3_155 : Cond.methodLink "KnockPipes" 195 yX9_mostFitting ∈ kp_wl := kp_t3 (i := 155) rfl rfl
theorem q3_157 : Cond.instanceMethod yX9_mostFitting ∈ kp_wl := kp_t3 (i := 157) rfl rfl
theorem q3_158 : Cond.code yX9_mostFitting cX9_mostFitting 5 (some .int) ∈ kp_wl := kp_t3 (i := 158) rfl rfl
theorem q3_159 : Cond.methodLink "KnockPipes" 199 yX9_allFitting ∈ kp_wl := kp_t3 (i := 159) rfl rfl
theorem q3_161 : Cond.instanceMethod yX9_allFitting ∈ kp_wl := kp_t3 (i := 161) rfl rfl
theorem q3_162 : Cond.code yX9_allFitting cX9_allFitting 4 (some .int) ∈ kp_wl := kp_t3 (i := 162) rfl rfl
theorem q3_163 : Cond.methodLink "KnockPipes" 286 yX9_fitsAllRows ∈ kp_wl := kp_t3 (i := 163) rfl rfl
theorem q3_165 : Cond.instanceMethod yX9_fitsAllRows ∈ kp_wl := kp_t3 (i := 165) rfl rfl
theorem q3_166 : Cond.code yX9_fitsAllRows cX9_fitsAllRows 3 (some .boolean) ∈ kp_wl := kp_t3 (i := 166) rfl rfl
theorem q3_167 : Cond.methodLink "KnockPipes" 214 yX9_shareOf ∈ kp_wl := kp_t3 (i := 167) rfl rfl
theorem q3_169 : Cond.instanceMethod yX9_shareOf ∈ kp_wl := kp_t3 (i := 169) rfl rfl
theorem q3_170 : Cond.code yX9_shareOf cX9_shareOf 5 (some .int) ∈ kp_wl := kp_t3 (i := 170) rfl rfl
theorem q3_171 : Cond.methodLink "KnockPipes" 202 yX9_worst ∈ kp_wl := kp_t3 (i := 171) rfl rfl
theorem q3_173 : Cond.instanceMethod yX9_worst ∈ kp_wl := kp_t3 (i := 173) rfl rfl
theorem q3_174 : Cond.code yX9_worst cX9_worst 5 (some .int) ∈ kp_wl := kp_t3 (i := 174) rfl rfl
theorem q3_175 : Cond.methodLink "KnockPipes" 250 yX9_harmOf ∈ kp_wl := kp_t3 (i := 175) rfl rfl
theorem q3_177 : Cond.instanceMethod yX9_harmOf ∈ kp_wl := kp_t3 (i := 177) rfl rfl
theorem q3_178 : Cond.code yX9_harmOf cX9_harmOf 4 (some .int) ∈ kp_wl := kp_t3 (i := 178) rfl rfl
theorem q3_179 : Cond.methodLink "KnockPipesLaw" 91 yX9_next ∈ kp_wl := kp_t3 (i := 179) rfl rfl
theorem q3_180 : Cond.instanceMethod yX9_next ∈ kp_wl := kp_t3 (i := 180) rfl rfl
theorem q3_181 : Cond.selects "KnockPipes" yX9_next yX9_next ∈ kp_wl := kp_t3 (i := 181) rfl rfl
theorem q3_182 : Cond.code yX9_next cX9_next 6 (some .int) ∈ kp_wl := kp_t3 (i := 182) rfl rfl
theorem q3_183 : Cond.methodLink "KnockPipes" 205 yX9_mostAlike ∈ kp_wl := kp_t3 (i := 183) rfl rfl
theorem q3_185 : Cond.instanceMethod yX9_mostAlike ∈ kp_wl := kp_t3 (i := 185) rfl rfl
theorem q3_186 : Cond.code yX9_mostAlike cX9_mostAlike 7 (some .int) ∈ kp_wl := kp_t3 (i := 186) rfl rfl
theorem q3_187 : Cond.methodLink "KnockPipesLaw" 95 yX9_least ∈ kp_wl := kp_t3 (i := 187) rfl rfl
theorem q3_188 : Cond.instanceMethod yX9_least ∈ kp_wl := kp_t3 (i := 188) rfl rfl
theorem q3_189 : Cond.selects "KnockPipes" yX9_least yX9_least ∈ kp_wl := kp_t3 (i := 189) rfl rfl
theorem q3_190 : Cond.code yX9_least cX9_least 7 (some .int) ∈ kp_wl := kp_t3 (i := 190) rfl rfl
theorem q3_191 : Cond.methodLink "KnockPipes" 208 yX3_loose ∈ kp_wl := kp_t3 (i := 191) rfl rfl
theorem q3_192 : Cond.instanceMethod yX3_loose ∈ kp_wl := kp_t3 (i := 192) rfl rfl
theorem q3_193 : Cond.selects "KnockPipes$Noises" yX3_loose yX3_loose ∈ kp_wl := kp_t3 (i := 193) rfl rfl
theorem q3_194 : Cond.code yX3_loose cX3_loose 1 (some .int) ∈ kp_wl := kp_t3 (i := 194) rfl rfl
theorem q3_195 : Cond.methodLink "KnockPipes" 211 yX9_heardInDayOf ∈ kp_wl := kp_t3 (i := 195) rfl rfl
theorem q3_197 : Cond.instanceMethod yX9_heardInDayOf ∈ kp_wl := kp_t3 (i := 197) rfl rfl
theorem q3_198 : Cond.code yX9_heardInDayOf cX9_heardInDayOf 5 (some .int) ∈ kp_wl := kp_t3 (i := 198) rfl rfl
theorem q3_199 : Cond.methodLink "KnockPipesLaw" 99 yX9_eased ∈ kp_wl := kp_t3 (i := 199) rfl rfl
theorem q3_200 : Cond.instanceMethod yX9_eased ∈ kp_wl := kp_t3 (i := 200) rfl rfl
theorem q3_201 : Cond.selects "KnockPipes" yX9_eased yX9_eased ∈ kp_wl := kp_t3 (i := 201) rfl rfl
theorem q3_202 : Cond.code yX9_eased cX9_eased 7 (some .int) ∈ kp_wl := kp_t3 (i := 202) rfl rfl
theorem q3_203 : Cond.methodLink "KnockPipesLaw" 103 yX9_parted ∈ kp_wl := kp_t3 (i := 203) rfl rfl
theorem q3_204 : Cond.instanceMethod yX9_parted ∈ kp_wl := kp_t3 (i := 204) rfl rfl
theorem q3_205 : Cond.selects "KnockPipes" yX9_parted yX9_parted ∈ kp_wl := kp_t3 (i := 205) rfl rfl
theorem q3_206 : Cond.code yX9_parted cX9_parted 3 (some .long) ∈ kp_wl := kp_t3 (i := 206) rfl rfl
theorem q3_207 : Cond.constantLong "KnockPipes" 229 (-9223372036854775808) ∈ kp_wl := kp_t3 (i := 207) rfl rfl
theorem q3_208 : Cond.methodLink "KnockPipes" 231 yX6_knockingOf ∈ kp_wl := kp_t3 (i := 208) rfl rfl
theorem q3_209 : Cond.instanceMethod yX6_knockingOf ∈ kp_wl := kp_t3 (i := 209) rfl rfl
theorem q3_210 : Cond.selects "KnockPipes$Sounds" yX6_knockingOf yX6_knockingOf ∈ kp_wl := kp_t3 (i := 210) rfl rfl
theorem q3_211 : Cond.code yX6_knockingOf cX6_knockingOf 5 (some .long) ∈ kp_wl := kp_t3 (i := 211) rfl rfl
theorem q3_212 : Cond.methodLink "KnockPipes$Sounds" 37 yX6_knocksOf ∈ kp_wl := kp_t3 (i := 212) rfl rfl
theorem q3_213 : Cond.methodLink "KnockPipesLaw" 108 yX9_quiet ∈ kp_wl := kp_t3 (i := 213) rfl rfl
theorem q3_214 : Cond.instanceMethod yX9_quiet ∈ kp_wl := kp_t3 (i := 214) rfl rfl
theorem q3_215 : Cond.selects "KnockPipes" yX9_quiet yX9_quiet ∈ kp_wl := kp_t3 (i := 215) rfl rfl
theorem q3_216 : Cond.code yX9_quiet cX9_quiet 4 (some .int) ∈ kp_wl := kp_t3 (i := 216) rfl rfl
theorem q3_217 : Cond.methodLink "KnockPipesLaw" 112 yX9_moved ∈ kp_wl := kp_t3 (i := 217) rfl rfl
theorem q3_218 : Cond.instanceMethod yX9_moved ∈ kp_wl := kp_t3 (i := 218) rfl rfl
theorem q3_219 : Cond.selects "KnockPipes" yX9_moved yX9_moved ∈ kp_wl := kp_t3 (i := 219) rfl rfl
theorem q3_220 : Cond.code yX9_moved cX9_moved 8 (some .int) ∈ kp_wl := kp_t3 (i := 220) rfl rfl
theorem q3_221 : Cond.methodLink "KnockPipesLaw" 116 yX9_older ∈ kp_wl := kp_t3 (i := 221) rfl rfl
theorem q3_222 : Cond.instanceMethod yX9_older ∈ kp_wl := kp_t3 (i := 222) rfl rfl
theorem q3_223 : Cond.selects "KnockPipes" yX9_older yX9_older ∈ kp_wl := kp_t3 (i := 223) rfl rfl
theorem q3_224 : Cond.code yX9_older cX9_older 3 (some .int) ∈ kp_wl := kp_t3 (i := 224) rfl rfl
theorem q3_225 : Cond.methodLink "KnockPipes" 247 yX9_rowsHeard ∈ kp_wl := kp_t3 (i := 225) rfl rfl
theorem q3_227 : Cond.instanceMethod yX9_rowsHeard ∈ kp_wl := kp_t3 (i := 227) rfl rfl
theorem q3_228 : Cond.code yX9_rowsHeard cX9_rowsHeard 3 (some .int) ∈ kp_wl := kp_t3 (i := 228) rfl rfl
theorem q3_229 : Cond.methodLink "KnockPipesLaw" 120 yX9_harm ∈ kp_wl := kp_t3 (i := 229) rfl rfl
theorem q3_230 : Cond.instanceMethod yX9_harm ∈ kp_wl := kp_t3 (i := 230) rfl rfl
theorem q3_231 : Cond.selects "KnockPipes" yX9_harm yX9_harm ∈ kp_wl := kp_t3 (i := 231) rfl rfl
theorem q3_232 : Cond.code yX9_harm cX9_harm 2 (some .int) ∈ kp_wl := kp_t3 (i := 232) rfl rfl
theorem q3_233 : Cond.methodLink "KnockPipesLaw" 124 yX9_act ∈ kp_wl := kp_t3 (i := 233) rfl rfl
theorem q3_234 : Cond.instanceMethod yX9_act ∈ kp_wl := kp_t3 (i := 234) rfl rfl
theorem q3_235 : Cond.selects "KnockPipes" yX9_act yX9_act ∈ kp_wl := kp_t3 (i := 235) rfl rfl
theorem q3_236 : Cond.code yX9_act cX9_act 4 (some .int) ∈ kp_wl := kp_t3 (i := 236) rfl rfl
theorem q3_237 : Cond.methodLink "KnockPipes" 256 yX0_start ∈ kp_wl := kp_t3 (i := 237) rfl rfl
theorem q3_238 : Cond.instanceMethod yX0_start ∈ kp_wl := kp_t3 (i := 238) rfl rfl
theorem q3_239 : Cond.selects "KnockPipes$Acts" yX0_start yX0_start ∈ kp_wl := kp_t3 (i := 239) rfl rfl
theorem q4_0 : Cond.code yX0_start cX0_start 5 (some .int) ∈ kp_wl := kp_t4 (i := 0) rfl rfl
theorem q4_1 : Cond.methodLink "KnockPipes$Acts" 34 yX0_send ∈ kp_wl := kp_t4 (i := 1) rfl rfl
theorem q4_3 : Cond.instanceMethod yX0_send ∈ kp_wl := kp_t4 (i := 3) rfl rfl
theorem q4_4 : Cond.code yX0_send cX0_send 8 (some .int) ∈ kp_wl := kp_t4 (i := 4) rfl rfl
theorem q4_6 : Cond.fieldLink "KnockPipes$Acts" 42 "KnockPipes$Acts" "BODIES" "[I" ∈ kp_wl := kp_t4 (i := 6) rfl rfl
theorem q4_9 : Cond.methodLink "KnockPipes$Acts" 48 yX0_run ∈ kp_wl := kp_t4 (i := 9) rfl rfl
theorem q4_11 : Cond.instanceMethod yX0_run ∈ kp_wl := kp_t4 (i := 11) rfl rfl
theorem q4_12 : Cond.code yX0_run cX0_run 5 (some .int) ∈ kp_wl := kp_t4 (i := 12) rfl rfl
theorem q4_13 : Cond.methodLink "KnockPipesLaw" 128 yX9_trace ∈ kp_wl := kp_t4 (i := 13) rfl rfl
theorem q4_14 : Cond.instanceMethod yX9_trace ∈ kp_wl := kp_t4 (i := 14) rfl rfl
theorem q4_15 : Cond.selects "KnockPipes" yX9_trace yX9_trace ∈ kp_wl := kp_t4 (i := 15) rfl rfl
theorem q4_16 : Cond.code yX9_trace cX9_trace 2 (some .int) ∈ kp_wl := kp_t4 (i := 16) rfl rfl
theorem q4_17 : Cond.methodLink "KnockPipesLaw" 132 yX9_as ∈ kp_wl := kp_t4 (i := 17) rfl rfl
theorem q4_18 : Cond.instanceMethod yX9_as ∈ kp_wl := kp_t4 (i := 18) rfl rfl
theorem q4_19 : Cond.selects "KnockPipes" yX9_as yX9_as ∈ kp_wl := kp_t4 (i := 19) rfl rfl
theorem q4_20 : Cond.code yX9_as cX9_as 3 (some .int) ∈ kp_wl := kp_t4 (i := 20) rfl rfl
theorem q4_21 : Cond.methodLink "KnockPipesLaw" 136 yX9_image ∈ kp_wl := kp_t4 (i := 21) rfl rfl
theorem q4_22 : Cond.instanceMethod yX9_image ∈ kp_wl := kp_t4 (i := 22) rfl rfl
theorem q4_23 : Cond.selects "KnockPipes" yX9_image yX9_image ∈ kp_wl := kp_t4 (i := 23) rfl rfl
theorem q4_24 : Cond.code yX9_image cX9_image 1 (some .int) ∈ kp_wl := kp_t4 (i := 24) rfl rfl
theorem q4_25 : Cond.methodLink "KnockPipes" 263 yX1_copy ∈ kp_wl := kp_t4 (i := 25) rfl rfl
theorem q4_26 : Cond.instanceMethod yX1_copy ∈ kp_wl := kp_t4 (i := 26) rfl rfl
theorem q4_27 : Cond.selects "KnockPipes$Home" yX1_copy yX1_copy ∈ kp_wl := kp_t4 (i := 27) rfl rfl
theorem q4_28 : Cond.code yX1_copy cX1_copy 2 none ∈ kp_wl := kp_t4 (i := 28) rfl rfl
theorem q4_29 : Cond.methodLink "KnockPipes$Home" 47 ⟨"java/lang/System", "arraycopy", "(Ljava/lang/Object;ILjava/lang/Object;II)V"⟩ ∈ kp_wl := kp_t4 (i := 29) rfl rfl
theorem q4_30 : Cond.methodLink "KnockPipes$Home" 53 yX7_copy ∈ kp_wl := kp_t4 (i := 30) rfl rfl
theorem q4_31 : Cond.methodLink "KnockPipes$Home" 57 yX2_copy ∈ kp_wl := kp_t4 (i := 31) rfl rfl
theorem q4_32 : Cond.methodLink "KnockPipes$Home" 60 yX3_copy ∈ kp_wl := kp_t4 (i := 32) rfl rfl
theorem q4_33 : Cond.instanceMethod yX3_copy ∈ kp_wl := kp_t4 (i := 33) rfl rfl
theorem q4_34 : Cond.selects "KnockPipes$Noises" yX3_copy yX3_copy ∈ kp_wl := kp_t4 (i := 34) rfl rfl
theorem q4_35 : Cond.code yX3_copy cX3_copy 2 none ∈ kp_wl := kp_t4 (i := 35) rfl rfl
theorem q4_36 : Cond.methodLink "KnockPipes$Noises" 31 ⟨"java/lang/System", "arraycopy", "(Ljava/lang/Object;ILjava/lang/Object;II)V"⟩ ∈ kp_wl := kp_t4 (i := 36) rfl rfl
theorem q4_37 : Cond.methodLink "KnockPipes$Home" 63 yX4_copy ∈ kp_wl := kp_t4 (i := 37) rfl rfl
theorem q4_38 : Cond.instanceMethod yX4_copy ∈ kp_wl := kp_t4 (i := 38) rfl rfl
theorem q4_39 : Cond.selects "KnockPipes$Notebook" yX4_copy yX4_copy ∈ kp_wl := kp_t4 (i := 39) rfl rfl
theorem q4_40 : Cond.code yX4_copy cX4_copy 2 none ∈ kp_wl := kp_t4 (i := 40) rfl rfl
theorem q4_41 : Cond.methodLink "KnockPipes$Notebook" 25 ⟨"java/lang/System", "arraycopy", "(Ljava/lang/Object;ILjava/lang/Object;II)V"⟩ ∈ kp_wl := kp_t4 (i := 41) rfl rfl
theorem q4_42 : Cond.methodLink "KnockPipesLaw" 140 yX9_undo ∈ kp_wl := kp_t4 (i := 42) rfl rfl
theorem q4_43 : Cond.instanceMethod yX9_undo ∈ kp_wl := kp_t4 (i := 43) rfl rfl
theorem q4_44 : Cond.selects "KnockPipes" yX9_undo yX9_undo ∈ kp_wl := kp_t4 (i := 44) rfl rfl
theorem q4_45 : Cond.code yX9_undo cX9_undo 1 (some .int) ∈ kp_wl := kp_t4 (i := 45) rfl rfl
theorem q4_46 : Cond.methodLink "KnockPipesLaw" 144 yX9_count ∈ kp_wl := kp_t4 (i := 46) rfl rfl
theorem q4_47 : Cond.instanceMethod yX9_count ∈ kp_wl := kp_t4 (i := 47) rfl rfl
theorem q4_48 : Cond.selects "KnockPipes" yX9_count yX9_count ∈ kp_wl := kp_t4 (i := 48) rfl rfl
theorem q4_49 : Cond.code yX9_count cX9_count 2 (some .int) ∈ kp_wl := kp_t4 (i := 49) rfl rfl
theorem q4_50 : Cond.classLink "KnockPipesLaw" 10 "KnockPipesModel" ∈ kp_wl := kp_t4 (i := 50) rfl rfl
theorem q4_51 : Cond.instantiable "KnockPipesModel" 26 ∈ kp_wl := kp_t4 (i := 51) rfl rfl
theorem q4_52 : Cond.methodLink "KnockPipesLaw" 12 yX10_init ∈ kp_wl := kp_t4 (i := 52) rfl rfl
theorem q4_53 : Cond.instanceMethod yX10_init ∈ kp_wl := kp_t4 (i := 53) rfl rfl
theorem q4_54 : Cond.code yX10_init cX10_init 1 none ∈ kp_wl := kp_t4 (i := 54) rfl rfl
theorem q4_55 : Cond.methodLink "KnockPipesModel" 3 objectInit ∈ kp_wl := kp_t4 (i := 55) rfl rfl
theorem q4_56 : Cond.fieldLink "KnockPipesModel" 9 "KnockPipesModel" "s" "[I" ∈ kp_wl := kp_t4 (i := 56) rfl rfl
theorem q4_57 : Cond.fieldLink "KnockPipesModel" 15 "KnockPipesModel" "image" "[I" ∈ kp_wl := kp_t4 (i := 57) rfl rfl
theorem q4_58 : Cond.fieldLink "KnockPipesModel" 289 "KnockPipesModel" "hasImage" "Z" ∈ kp_wl := kp_t4 (i := 58) rfl rfl
theorem q4_59 : Cond.fieldLink "KnockPipesModel" 79 "KnockPipesModel" "act" "I" ∈ kp_wl := kp_t4 (i := 59) rfl rfl
theorem q4_60 : Cond.fieldLink "KnockPipesModel" 52 "KnockPipesModel" "spot" "I" ∈ kp_wl := kp_t4 (i := 60) rfl rfl
theorem q4_61 : Cond.fieldLink "KnockPipesModel" 55 "KnockPipesModel" "end" "I" ∈ kp_wl := kp_t4 (i := 61) rfl rfl
theorem q4_62 : Cond.fieldLink "KnockPipesModel" 58 "KnockPipesModel" "isWrong" "Z" ∈ kp_wl := kp_t4 (i := 62) rfl rfl
theorem q4_63 : Cond.fieldLink "KnockPipesModel" 82 "KnockPipesModel" "open" "I" ∈ kp_wl := kp_t4 (i := 63) rfl rfl
theorem q4_64 : Cond.fieldLink "KnockPipesModel" 18 "KnockPipesModel" "by" "[I" ∈ kp_wl := kp_t4 (i := 64) rfl rfl
theorem q4_65 : Cond.fieldLink "KnockPipesModel" 21 "KnockPipesModel" "truths" "[Z" ∈ kp_wl := kp_t4 (i := 65) rfl rfl
theorem q4_66 : Cond.fieldLink "KnockPipesModel" 143 "KnockPipesModel" "grows" "I" ∈ kp_wl := kp_t4 (i := 66) rfl rfl
theorem q4_67 : Cond.fieldLink "KnockPipesModel" 146 "KnockPipesModel" "holds" "I" ∈ kp_wl := kp_t4 (i := 67) rfl rfl
theorem q4_68 : Cond.fieldLink "KnockPipesModel" 149 "KnockPipesModel" "anyHolds" "Z" ∈ kp_wl := kp_t4 (i := 68) rfl rfl
theorem q4_69 : Cond.fieldLink "KnockPipesModel" 25 "KnockPipesModel" "warmths" "[I" ∈ kp_wl := kp_t4 (i := 69) rfl rfl
theorem q4_70 : Cond.fieldLink "KnockPipesModel" 28 "KnockPipesModel" "beats" "[I" ∈ kp_wl := kp_t4 (i := 70) rfl rfl
theorem q4_71 : Cond.fieldLink "KnockPipesModel" 155 "KnockPipesModel" "isQuietDay" "Z" ∈ kp_wl := kp_t4 (i := 71) rfl rfl
theorem q4_72 : Cond.fieldLink "KnockPipesModel" 152 "KnockPipesModel" "late" "I" ∈ kp_wl := kp_t4 (i := 72) rfl rfl
theorem q4_73 : Cond.fieldLink "KnockPipesModel" 214 "KnockPipesModel" "easing" "I" ∈ kp_wl := kp_t4 (i := 73) rfl rfl
theorem q4_74 : Cond.fieldLink "KnockPipesModel" 31 "KnockPipesModel" "heardThere" "[I" ∈ kp_wl := kp_t4 (i := 74) rfl rfl
theorem q4_75 : Cond.fieldLink "KnockPipesModel" 34 "KnockPipesModel" "heardIn" "[I" ∈ kp_wl := kp_t4 (i := 75) rfl rfl
theorem q4_76 : Cond.fieldLink "KnockPipesModel" 37 "KnockPipesModel" "bodies" "[I" ∈ kp_wl := kp_t4 (i := 76) rfl rfl
theorem q4_77 : Cond.fieldLink "KnockPipesModel" 253 "KnockPipesModel" "ran" "I" ∈ kp_wl := kp_t4 (i := 77) rfl rfl
theorem q4_78 : Cond.fieldLink "KnockPipesModel" 262 "KnockPipesModel" "kind" "I" ∈ kp_wl := kp_t4 (i := 78) rfl rfl
theorem q4_79 : Cond.fieldLink "KnockPipesModel" 259 "KnockPipesModel" "number" "I" ∈ kp_wl := kp_t4 (i := 79) rfl rfl
theorem q4_80 : Cond.fieldLink "KnockPipesModel" 274 "KnockPipesModel" "tellsV" "I" ∈ kp_wl := kp_t4 (i := 80) rfl rfl
theorem q4_81 : Cond.lays "KnockPipesModel" "KnockPipesModel" "thrown" "I" ∈ kp_wl := kp_t4 (i := 81) rfl rfl
theorem q4_83 : Cond.laysFinal "KnockPipesModel" "KnockPipesModel" "s" "[I" ∈ kp_wl := kp_t4 (i := 83) rfl rfl
theorem q4_85 : Cond.laysFinal "KnockPipesModel" "KnockPipesModel" "image" "[I" ∈ kp_wl := kp_t4 (i := 85) rfl rfl
theorem q4_87 : Cond.lays "KnockPipesModel" "KnockPipesModel" "hasImage" "Z" ∈ kp_wl := kp_t4 (i := 87) rfl rfl
theorem q4_89 : Cond.lays "KnockPipesModel" "KnockPipesModel" "act" "I" ∈ kp_wl := kp_t4 (i := 89) rfl rfl
theorem q4_91 : Cond.lays "KnockPipesModel" "KnockPipesModel" "spot" "I" ∈ kp_wl := kp_t4 (i := 91) rfl rfl
theorem q4_93 : Cond.lays "KnockPipesModel" "KnockPipesModel" "end" "I" ∈ kp_wl := kp_t4 (i := 93) rfl rfl
theorem q4_95 : Cond.lays "KnockPipesModel" "KnockPipesModel" "isWrong" "Z" ∈ kp_wl := kp_t4 (i := 95) rfl rfl
theorem q4_97 : Cond.lays "KnockPipesModel" "KnockPipesModel" "open" "I" ∈ kp_wl := kp_t4 (i := 97) rfl rfl
theorem q4_99 : Cond.laysFinal "KnockPipesModel" "KnockPipesModel" "by" "[I" ∈ kp_wl := kp_t4 (i := 99) rfl rfl
theorem q4_101 : Cond.laysFinal "KnockPipesModel" "KnockPipesModel" "truths" "[Z" ∈ kp_wl := kp_t4 (i := 101) rfl rfl
theorem q4_103 : Cond.lays "KnockPipesModel" "KnockPipesModel" "grows" "I" ∈ kp_wl := kp_t4 (i := 103) rfl rfl
theorem q4_105 : Cond.lays "KnockPipesModel" "KnockPipesModel" "holds" "I" ∈ kp_wl := kp_t4 (i := 105) rfl rfl
theorem q4_107 : Cond.lays "KnockPipesModel" "KnockPipesModel" "anyHolds" "Z" ∈ kp_wl := kp_t4 (i := 107) rfl rfl
theorem q4_109 : Cond.laysFinal "KnockPipesModel" "KnockPipesModel" "warmths" "[I" ∈ kp_wl := kp_t4 (i := 109) rfl rfl
theorem q4_111 : Cond.laysFinal "KnockPipesModel" "KnockPipesModel" "beats" "[I" ∈ kp_wl := kp_t4 (i := 111) rfl rfl
theorem q4_113 : Cond.lays "KnockPipesModel" "KnockPipesModel" "isQuietDay" "Z" ∈ kp_wl := kp_t4 (i := 113) rfl rfl
theorem q4_115 : Cond.lays "KnockPipesModel" "KnockPipesModel" "late" "I" ∈ kp_wl := kp_t4 (i := 115) rfl rfl
theorem q4_117 : Cond.lays "KnockPipesModel" "KnockPipesModel" "easing" "I" ∈ kp_wl := kp_t4 (i := 117) rfl rfl
theorem q4_119 : Cond.laysFinal "KnockPipesModel" "KnockPipesModel" "heardThere" "[I" ∈ kp_wl := kp_t4 (i := 119) rfl rfl
theorem q4_121 : Cond.laysFinal "KnockPipesModel" "KnockPipesModel" "heardIn" "[I" ∈ kp_wl := kp_t4 (i := 121) rfl rfl
theorem q4_123 : Cond.laysFinal "KnockPipesModel" "KnockPipesModel" "bodies" "[I" ∈ kp_wl := kp_t4 (i := 123) rfl rfl
theorem q4_125 : Cond.lays "KnockPipesModel" "KnockPipesModel" "ran" "I" ∈ kp_wl := kp_t4 (i := 125) rfl rfl
theorem q4_127 : Cond.lays "KnockPipesModel" "KnockPipesModel" "kind" "I" ∈ kp_wl := kp_t4 (i := 127) rfl rfl
theorem q4_129 : Cond.lays "KnockPipesModel" "KnockPipesModel" "number" "I" ∈ kp_wl := kp_t4 (i := 129) rfl rfl
theorem q4_131 : Cond.lays "KnockPipesModel" "KnockPipesModel" "tellsV" "I" ∈ kp_wl := kp_t4 (i := 131) rfl rfl
theorem q4_134 : Cond.methodLink "KnockPipesLaw" 19 yX10_day ∈ kp_wl := kp_t4 (i := 134) rfl rfl
theorem q4_135 : Cond.instanceMethod yX10_day ∈ kp_wl := kp_t4 (i := 135) rfl rfl
theorem q4_136 : Cond.selects "KnockPipesModel" yX10_day yX10_day ∈ kp_wl := kp_t4 (i := 136) rfl rfl
theorem q4_137 : Cond.code yX10_day cX10_day 7 (some .int) ∈ kp_wl := kp_t4 (i := 137) rfl rfl
theorem q4_138 : Cond.methodLink "KnockPipesModel" 44 yX10_in ∈ kp_wl := kp_t4 (i := 138) rfl rfl
theorem q4_139 : Cond.static yX10_in ∈ kp_wl := kp_t4 (i := 139) rfl rfl
theorem q4_140 : Cond.code yX10_in cX10_in 3 (some .boolean) ∈ kp_wl := kp_t4 (i := 140) rfl rfl
theorem q4_141 : Cond.constantLong "KnockPipesModel" 48 (1099511627776) ∈ kp_wl := kp_t4 (i := 141) rfl rfl
theorem q4_142 : Cond.methodLink "KnockPipesLaw" 24 yX10_feed ∈ kp_wl := kp_t4 (i := 142) rfl rfl
theorem q4_143 : Cond.instanceMethod yX10_feed ∈ kp_wl := kp_t4 (i := 143) rfl rfl
theorem q4_144 : Cond.selects "KnockPipesModel" yX10_feed yX10_feed ∈ kp_wl := kp_t4 (i := 144) rfl rfl
theorem q4_145 : Cond.code yX10_feed cX10_feed 5 (some .int) ∈ kp_wl := kp_t4 (i := 145) rfl rfl
theorem q4_146 : Cond.constantLong "KnockPipesModel" 50 (255) ∈ kp_wl := kp_t4 (i := 146) rfl rfl
theorem q4_147 : Cond.methodLink "KnockPipesLaw" 29 yX10_house ∈ kp_wl := kp_t4 (i := 147) rfl rfl
theorem q4_148 : Cond.instanceMethod yX10_house ∈ kp_wl := kp_t4 (i := 148) rfl rfl
theorem q4_149 : Cond.selects "KnockPipesModel" yX10_house yX10_house ∈ kp_wl := kp_t4 (i := 149) rfl rfl
theorem q4_150 : Cond.code yX10_house cX10_house 2 (some .int) ∈ kp_wl := kp_t4 (i := 150) rfl rfl
theorem q4_151 : Cond.methodLink "KnockPipesModel" 136 yX10_clauseHere ∈ kp_wl := kp_t4 (i := 151) rfl rfl
theorem q4_153 : Cond.instanceMethod yX10_clauseHere ∈ kp_wl := kp_t4 (i := 153) rfl rfl
theorem q4_154 : Cond.code yX10_clauseHere cX10_clauseHere 1 none ∈ kp_wl := kp_t4 (i := 154) rfl rfl
theorem q4_155 : Cond.methodLink "KnockPipesModel" 62 yX10_here ∈ kp_wl := kp_t4 (i := 155) rfl rfl
theorem q4_157 : Cond.instanceMethod yX10_here ∈ kp_wl := kp_t4 (i := 157) rfl rfl
theorem q4_158 : Cond.code yX10_here cX10_here 1 (some .int) ∈ kp_wl := kp_t4 (i := 158) rfl rfl
theorem q4_160 : Cond.methodLink "KnockPipesModel" 114 yX10_much ∈ kp_wl := kp_t4 (i := 160) rfl rfl
theorem q4_162 : Cond.instanceMethod yX10_much ∈ kp_wl := kp_t4 (i := 162) rfl rfl
theorem q4_163 : Cond.code yX10_much cX10_much 4 none ∈ kp_wl := kp_t4 (i := 163) rfl rfl
theorem q4_164 : Cond.methodLink "KnockPipesModel" 108 yX10_spells ∈ kp_wl := kp_t4 (i := 164) rfl rfl
theorem q4_166 : Cond.instanceMethod yX10_spells ∈ kp_wl := kp_t4 (i := 166) rfl rfl
theorem q4_167 : Cond.code yX10_spells cX10_spells 3 none ∈ kp_wl := kp_t4 (i := 167) rfl rfl
theorem q4_168 : Cond.methodLink "KnockPipesModel" 66 yJ0_length_8abf5 ∈ kp_wl := kp_t4 (i := 168) rfl rfl
theorem q4_169 : Cond.methodLink "KnockPipesModel" 71 yJ0_charAt_5068e ∈ kp_wl := kp_t4 (i := 169) rfl rfl
theorem q4_170 : Cond.methodLink "KnockPipesModel" 75 yX10_must ∈ kp_wl := kp_t4 (i := 170) rfl rfl
theorem q4_172 : Cond.instanceMethod yX10_must ∈ kp_wl := kp_t4 (i := 172) rfl rfl
theorem q4_173 : Cond.code yX10_must cX10_must 2 none ∈ kp_wl := kp_t4 (i := 173) rfl rfl
theorem q4_174 : Cond.methodLink "KnockPipesModel" 102 yX10_figures ∈ kp_wl := kp_t4 (i := 174) rfl rfl
theorem q4_176 : Cond.instanceMethod yX10_figures ∈ kp_wl := kp_t4 (i := 176) rfl rfl
theorem q4_177 : Cond.code yX10_figures cX10_figures 3 (some .int) ∈ kp_wl := kp_t4 (i := 177) rfl rfl
theorem q4_178 : Cond.methodLink "KnockPipesModel" 91 yX10_some ∈ kp_wl := kp_t4 (i := 178) rfl rfl
theorem q4_180 : Cond.instanceMethod yX10_some ∈ kp_wl := kp_t4 (i := 180) rfl rfl
theorem q4_181 : Cond.code yX10_some cX10_some 1 none ∈ kp_wl := kp_t4 (i := 181) rfl rfl
theorem q4_182 : Cond.methodLink "KnockPipesModel" 105 yX10_every ∈ kp_wl := kp_t4 (i := 182) rfl rfl
theorem q4_184 : Cond.instanceMethod yX10_every ∈ kp_wl := kp_t4 (i := 184) rfl rfl
theorem q4_185 : Cond.code yX10_every cX10_every 1 none ∈ kp_wl := kp_t4 (i := 185) rfl rfl
theorem q4_186 : Cond.methodLink "KnockPipesModel" 85 yX10_factor ∈ kp_wl := kp_t4 (i := 186) rfl rfl
theorem q4_188 : Cond.instanceMethod yX10_factor ∈ kp_wl := kp_t4 (i := 188) rfl rfl
theorem q4_189 : Cond.code yX10_factor cX10_factor 5 none ∈ kp_wl := kp_t4 (i := 189) rfl rfl
theorem q4_190 : Cond.methodLink "KnockPipesModel" 88 yX10_emits ∈ kp_wl := kp_t4 (i := 190) rfl rfl
theorem q4_192 : Cond.instanceMethod yX10_emits ∈ kp_wl := kp_t4 (i := 192) rfl rfl
theorem q4_193 : Cond.code yX10_emits cX10_emits 2 none ∈ kp_wl := kp_t4 (i := 193) rfl rfl
theorem q4_195 : Cond.methodLink "KnockPipesModel" 96 yX10_among ∈ kp_wl := kp_t4 (i := 195) rfl rfl
theorem q4_197 : Cond.instanceMethod yX10_among ∈ kp_wl := kp_t4 (i := 197) rfl rfl
theorem q4_198 : Cond.code yX10_among cX10_among 3 (some .int) ∈ kp_wl := kp_t4 (i := 198) rfl rfl
theorem q4_200 : Cond.methodLink "KnockPipesModel" 125 yX10_clauseOfH ∈ kp_wl := kp_t4 (i := 200) rfl rfl
theorem q4_202 : Cond.instanceMethod yX10_clauseOfH ∈ kp_wl := kp_t4 (i := 202) rfl rfl
theorem q4_203 : Cond.code yX10_clauseOfH cX10_clauseOfH 1 none ∈ kp_wl := kp_t4 (i := 203) rfl rfl
theorem q4_206 : Cond.methodLink "KnockPipesModel" 120 yX10_tellsHere ∈ kp_wl := kp_t4 (i := 206) rfl rfl
theorem q4_208 : Cond.instanceMethod yX10_tellsHere ∈ kp_wl := kp_t4 (i := 208) rfl rfl
theorem q4_209 : Cond.code yX10_tellsHere cX10_tellsHere 4 none ∈ kp_wl := kp_t4 (i := 209) rfl rfl
theorem q4_214 : Cond.methodLink "KnockPipesLaw" 34 yX10_told ∈ kp_wl := kp_t4 (i := 214) rfl rfl
theorem q4_215 : Cond.instanceMethod yX10_told ∈ kp_wl := kp_t4 (i := 215) rfl rfl
theorem q4_216 : Cond.selects "KnockPipesModel" yX10_told yX10_told ∈ kp_wl := kp_t4 (i := 216) rfl rfl
theorem q4_217 : Cond.code yX10_told cX10_told 2 (some .int) ∈ kp_wl := kp_t4 (i := 217) rfl rfl
theorem q4_218 : Cond.methodLink "KnockPipesModel" 139 yX10_tellsOf ∈ kp_wl := kp_t4 (i := 218) rfl rfl
theorem q4_220 : Cond.instanceMethod yX10_tellsOf ∈ kp_wl := kp_t4 (i := 220) rfl rfl
theorem q4_221 : Cond.code yX10_tellsOf cX10_tellsOf 3 (some .int) ∈ kp_wl := kp_t4 (i := 221) rfl rfl
theorem q4_222 : Cond.methodLink "KnockPipesLaw" 38 yX10_warmth ∈ kp_wl := kp_t4 (i := 222) rfl rfl
theorem q4_223 : Cond.instanceMethod yX10_warmth ∈ kp_wl := kp_t4 (i := 223) rfl rfl
theorem q4_224 : Cond.selects "KnockPipesModel" yX10_warmth yX10_warmth ∈ kp_wl := kp_t4 (i := 224) rfl rfl
theorem q4_225 : Cond.code yX10_warmth cX10_warmth 2 (some .int) ∈ kp_wl := kp_t4 (i := 225) rfl rfl
theorem q4_226 : Cond.methodLink "KnockPipesModel" 195 yX10_isMinute ∈ kp_wl := kp_t4 (i := 226) rfl rfl
theorem q4_227 : Cond.static yX10_isMinute ∈ kp_wl := kp_t4 (i := 227) rfl rfl
theorem q4_228 : Cond.code yX10_isMinute cX10_isMinute 1 (some .boolean) ∈ kp_wl := kp_t4 (i := 228) rfl rfl
theorem q4_229 : Cond.methodLink "KnockPipesModel" 189 yX10_warms ∈ kp_wl := kp_t4 (i := 229) rfl rfl
theorem q4_231 : Cond.instanceMethod yX10_warms ∈ kp_wl := kp_t4 (i := 231) rfl rfl
theorem q4_232 : Cond.code yX10_warms cX10_warms 3 none ∈ kp_wl := kp_t4 (i := 232) rfl rfl
theorem q4_233 : Cond.methodLink "KnockPipesModel" 158 yX10_isOn ∈ kp_wl := kp_t4 (i := 233) rfl rfl
theorem q4_235 : Cond.instanceMethod yX10_isOn ∈ kp_wl := kp_t4 (i := 235) rfl rfl
theorem q4_236 : Cond.code yX10_isOn cX10_isOn 4 (some .boolean) ∈ kp_wl := kp_t4 (i := 236) rfl rfl
theorem q4_237 : Cond.methodLink "KnockPipesModel" 162 yX10_told ∈ kp_wl := kp_t4 (i := 237) rfl rfl
theorem q4_238 : Cond.methodLink "KnockPipesLaw" 43 yX10_noise ∈ kp_wl := kp_t4 (i := 238) rfl rfl
theorem q4_239 : Cond.instanceMethod yX10_noise ∈ kp_wl := kp_t4 (i := 239) rfl rfl
theorem q5_0 : Cond.selects "KnockPipesModel" yX10_noise yX10_noise ∈ kp_wl := kp_t5 (i := 0) rfl rfl
theorem q5_1 : Cond.code yX10_noise cX10_noise 6 (some .int) ∈ kp_wl := kp_t5 (i := 1) rfl rfl
theorem q5_2 : Cond.methodLink "KnockPipesModel" 199 yX10_isPlace ∈ kp_wl := kp_t5 (i := 2) rfl rfl
theorem q5_3 : Cond.static yX10_isPlace ∈ kp_wl := kp_t5 (i := 3) rfl rfl
theorem q5_4 : Cond.code yX10_isPlace cX10_isPlace 1 (some .boolean) ∈ kp_wl := kp_t5 (i := 4) rfl rfl
theorem q5_5 : Cond.methodLink "KnockPipesLaw" 48 yX10_of ∈ kp_wl := kp_t5 (i := 5) rfl rfl
theorem q5_6 : Cond.instanceMethod yX10_of ∈ kp_wl := kp_t5 (i := 6) rfl rfl
theorem q5_7 : Cond.selects "KnockPipesModel" yX10_of yX10_of ∈ kp_wl := kp_t5 (i := 7) rfl rfl
theorem q5_8 : Cond.code yX10_of cX10_of 3 (some .int) ∈ kp_wl := kp_t5 (i := 8) rfl rfl
theorem q5_9 : Cond.methodLink "KnockPipesModel" 202 yX10_isNoise ∈ kp_wl := kp_t5 (i := 9) rfl rfl
theorem q5_11 : Cond.instanceMethod yX10_isNoise ∈ kp_wl := kp_t5 (i := 11) rfl rfl
theorem q5_12 : Cond.code yX10_isNoise cX10_isNoise 2 (some .boolean) ∈ kp_wl := kp_t5 (i := 12) rfl rfl
theorem q5_13 : Cond.methodLink "KnockPipesLaw" 53 yX10_still ∈ kp_wl := kp_t5 (i := 13) rfl rfl
theorem q5_14 : Cond.instanceMethod yX10_still ∈ kp_wl := kp_t5 (i := 14) rfl rfl
theorem q5_15 : Cond.selects "KnockPipesModel" yX10_still yX10_still ∈ kp_wl := kp_t5 (i := 15) rfl rfl
theorem q5_16 : Cond.code yX10_still cX10_still 4 (some .int) ∈ kp_wl := kp_t5 (i := 16) rfl rfl
theorem q5_17 : Cond.methodLink "KnockPipesLaw" 58 yX10_knocks ∈ kp_wl := kp_t5 (i := 17) rfl rfl
theorem q5_18 : Cond.instanceMethod yX10_knocks ∈ kp_wl := kp_t5 (i := 18) rfl rfl
theorem q5_19 : Cond.selects "KnockPipesModel" yX10_knocks yX10_knocks ∈ kp_wl := kp_t5 (i := 19) rfl rfl
theorem q5_20 : Cond.code yX10_knocks cX10_knocks 5 (some .int) ∈ kp_wl := kp_t5 (i := 20) rfl rfl
theorem q5_21 : Cond.methodLink "KnockPipesModel" 205 yX10_goes ∈ kp_wl := kp_t5 (i := 21) rfl rfl
theorem q5_23 : Cond.instanceMethod yX10_goes ∈ kp_wl := kp_t5 (i := 23) rfl rfl
theorem q5_24 : Cond.code yX10_goes cX10_goes 2 none ∈ kp_wl := kp_t5 (i := 24) rfl rfl
theorem q5_25 : Cond.methodLink "KnockPipesModel" 192 yX10_goesOf ∈ kp_wl := kp_t5 (i := 25) rfl rfl
theorem q5_27 : Cond.instanceMethod yX10_goesOf ∈ kp_wl := kp_t5 (i := 27) rfl rfl
theorem q5_28 : Cond.code yX10_goesOf cX10_goesOf 2 none ∈ kp_wl := kp_t5 (i := 28) rfl rfl
theorem q5_29 : Cond.methodLink "KnockPipesModel" 176 yX10_ticks ∈ kp_wl := kp_t5 (i := 29) rfl rfl
theorem q5_31 : Cond.instanceMethod yX10_ticks ∈ kp_wl := kp_t5 (i := 31) rfl rfl
theorem q5_32 : Cond.code yX10_ticks cX10_ticks 7 none ∈ kp_wl := kp_t5 (i := 32) rfl rfl
theorem q5_33 : Cond.methodLink "KnockPipesModel" 170 yX10_lengthOf ∈ kp_wl := kp_t5 (i := 33) rfl rfl
theorem q5_35 : Cond.instanceMethod yX10_lengthOf ∈ kp_wl := kp_t5 (i := 35) rfl rfl
theorem q5_36 : Cond.code yX10_lengthOf cX10_lengthOf 3 (some .int) ∈ kp_wl := kp_t5 (i := 36) rfl rfl
theorem q5_37 : Cond.methodLink "KnockPipesModel" 166 yX10_looksAt ∈ kp_wl := kp_t5 (i := 37) rfl rfl
theorem q5_39 : Cond.instanceMethod yX10_looksAt ∈ kp_wl := kp_t5 (i := 39) rfl rfl
theorem q5_40 : Cond.code yX10_looksAt cX10_looksAt 11 none ∈ kp_wl := kp_t5 (i := 40) rfl rfl
theorem q5_41 : Cond.methodLink "KnockPipesModel" 173 yX10_size ∈ kp_wl := kp_t5 (i := 41) rfl rfl
theorem q5_42 : Cond.static yX10_size ∈ kp_wl := kp_t5 (i := 42) rfl rfl
theorem q5_43 : Cond.code yX10_size cX10_size 1 (some .int) ∈ kp_wl := kp_t5 (i := 43) rfl rfl
theorem q5_44 : Cond.methodLink "KnockPipesModel" 179 yX10_strikesBy ∈ kp_wl := kp_t5 (i := 44) rfl rfl
theorem q5_46 : Cond.instanceMethod yX10_strikesBy ∈ kp_wl := kp_t5 (i := 46) rfl rfl
theorem q5_47 : Cond.code yX10_strikesBy cX10_strikesBy 5 none ∈ kp_wl := kp_t5 (i := 47) rfl rfl
theorem q5_48 : Cond.methodLink "KnockPipesModel" 182 yX10_hums ∈ kp_wl := kp_t5 (i := 48) rfl rfl
theorem q5_50 : Cond.instanceMethod yX10_hums ∈ kp_wl := kp_t5 (i := 50) rfl rfl
theorem q5_51 : Cond.code yX10_hums cX10_hums 6 none ∈ kp_wl := kp_t5 (i := 51) rfl rfl
theorem q5_52 : Cond.methodLink "KnockPipesModel" 186 yX10_plainly ∈ kp_wl := kp_t5 (i := 52) rfl rfl
theorem q5_54 : Cond.instanceMethod yX10_plainly ∈ kp_wl := kp_t5 (i := 54) rfl rfl
theorem q5_55 : Cond.code yX10_plainly cX10_plainly 3 none ∈ kp_wl := kp_t5 (i := 55) rfl rfl
theorem q5_56 : Cond.methodLink "KnockPipesModel" 208 yX10_isStill ∈ kp_wl := kp_t5 (i := 56) rfl rfl
theorem q5_58 : Cond.instanceMethod yX10_isStill ∈ kp_wl := kp_t5 (i := 58) rfl rfl
theorem q5_59 : Cond.code yX10_isStill cX10_isStill 2 (some .boolean) ∈ kp_wl := kp_t5 (i := 59) rfl rfl
theorem q5_60 : Cond.methodLink "KnockPipesLaw" 62 yX10_loud ∈ kp_wl := kp_t5 (i := 60) rfl rfl
theorem q5_61 : Cond.instanceMethod yX10_loud ∈ kp_wl := kp_t5 (i := 61) rfl rfl
theorem q5_62 : Cond.selects "KnockPipesModel" yX10_loud yX10_loud ∈ kp_wl := kp_t5 (i := 62) rfl rfl
theorem q5_63 : Cond.code yX10_loud cX10_loud 4 (some .int) ∈ kp_wl := kp_t5 (i := 63) rfl rfl
theorem q5_64 : Cond.methodLink "KnockPipesModel" 217 yX10_loudOf ∈ kp_wl := kp_t5 (i := 64) rfl rfl
theorem q5_66 : Cond.instanceMethod yX10_loudOf ∈ kp_wl := kp_t5 (i := 66) rfl rfl
theorem q5_67 : Cond.code yX10_loudOf cX10_loudOf 9 (some .int) ∈ kp_wl := kp_t5 (i := 67) rfl rfl
theorem q5_68 : Cond.methodLink "KnockPipesModel" 211 yX10_isStruck ∈ kp_wl := kp_t5 (i := 68) rfl rfl
theorem q5_70 : Cond.instanceMethod yX10_isStruck ∈ kp_wl := kp_t5 (i := 70) rfl rfl
theorem q5_71 : Cond.code yX10_isStruck cX10_isStruck 2 (some .boolean) ∈ kp_wl := kp_t5 (i := 71) rfl rfl
theorem q5_72 : Cond.methodLink "KnockPipesLaw" 66 yX10_heard ∈ kp_wl := kp_t5 (i := 72) rfl rfl
theorem q5_73 : Cond.instanceMethod yX10_heard ∈ kp_wl := kp_t5 (i := 73) rfl rfl
theorem q5_74 : Cond.selects "KnockPipesModel" yX10_heard yX10_heard ∈ kp_wl := kp_t5 (i := 74) rfl rfl
theorem q5_75 : Cond.code yX10_heard cX10_heard 3 (some .int) ∈ kp_wl := kp_t5 (i := 75) rfl rfl
theorem q5_76 : Cond.methodLink "KnockPipesModel" 224 yX10_moving ∈ kp_wl := kp_t5 (i := 76) rfl rfl
theorem q5_78 : Cond.instanceMethod yX10_moving ∈ kp_wl := kp_t5 (i := 78) rfl rfl
theorem q5_79 : Cond.code yX10_moving cX10_moving 3 (some .int) ∈ kp_wl := kp_t5 (i := 79) rfl rfl
theorem q5_80 : Cond.methodLink "KnockPipesModel" 227 yX10_heardAll ∈ kp_wl := kp_t5 (i := 80) rfl rfl
theorem q5_82 : Cond.instanceMethod yX10_heardAll ∈ kp_wl := kp_t5 (i := 82) rfl rfl
theorem q5_83 : Cond.code yX10_heardAll cX10_heardAll 5 (some .int) ∈ kp_wl := kp_t5 (i := 83) rfl rfl
theorem q5_84 : Cond.methodLink "KnockPipesModel" 221 yX10_heardOf ∈ kp_wl := kp_t5 (i := 84) rfl rfl
theorem q5_86 : Cond.instanceMethod yX10_heardOf ∈ kp_wl := kp_t5 (i := 86) rfl rfl
theorem q5_87 : Cond.code yX10_heardOf cX10_heardOf 7 (some .int) ∈ kp_wl := kp_t5 (i := 87) rfl rfl
theorem q5_88 : Cond.methodLink "KnockPipesLaw" 70 yX10_seems ∈ kp_wl := kp_t5 (i := 88) rfl rfl
theorem q5_89 : Cond.instanceMethod yX10_seems ∈ kp_wl := kp_t5 (i := 89) rfl rfl
theorem q5_90 : Cond.selects "KnockPipesModel" yX10_seems yX10_seems ∈ kp_wl := kp_t5 (i := 90) rfl rfl
theorem q5_91 : Cond.code yX10_seems cX10_seems 8 (some .int) ∈ kp_wl := kp_t5 (i := 91) rfl rfl
theorem q5_92 : Cond.methodLink "KnockPipesLaw" 74 yX10_note ∈ kp_wl := kp_t5 (i := 92) rfl rfl
theorem q5_93 : Cond.instanceMethod yX10_note ∈ kp_wl := kp_t5 (i := 93) rfl rfl
theorem q5_94 : Cond.selects "KnockPipesModel" yX10_note yX10_note ∈ kp_wl := kp_t5 (i := 94) rfl rfl
theorem q5_95 : Cond.code yX10_note cX10_note 4 (some .int) ∈ kp_wl := kp_t5 (i := 95) rfl rfl
theorem q5_96 : Cond.methodLink "KnockPipesLaw" 78 yX10_clear ∈ kp_wl := kp_t5 (i := 96) rfl rfl
theorem q5_97 : Cond.instanceMethod yX10_clear ∈ kp_wl := kp_t5 (i := 97) rfl rfl
theorem q5_98 : Cond.selects "KnockPipesModel" yX10_clear yX10_clear ∈ kp_wl := kp_t5 (i := 98) rfl rfl
theorem q5_99 : Cond.code yX10_clear cX10_clear 2 (some .int) ∈ kp_wl := kp_t5 (i := 99) rfl rfl
theorem q5_100 : Cond.methodLink "KnockPipesLaw" 82 yX10_fits ∈ kp_wl := kp_t5 (i := 100) rfl rfl
theorem q5_101 : Cond.instanceMethod yX10_fits ∈ kp_wl := kp_t5 (i := 101) rfl rfl
theorem q5_102 : Cond.selects "KnockPipesModel" yX10_fits yX10_fits ∈ kp_wl := kp_t5 (i := 102) rfl rfl
theorem q5_103 : Cond.code yX10_fits cX10_fits 2 (some .int) ∈ kp_wl := kp_t5 (i := 103) rfl rfl
theorem q5_104 : Cond.methodLink "KnockPipesModel" 230 yX10_fitsOf ∈ kp_wl := kp_t5 (i := 104) rfl rfl
theorem q5_106 : Cond.instanceMethod yX10_fitsOf ∈ kp_wl := kp_t5 (i := 106) rfl rfl
theorem q5_107 : Cond.code yX10_fitsOf cX10_fitsOf 4 (some .int) ∈ kp_wl := kp_t5 (i := 107) rfl rfl
theorem q5_108 : Cond.methodLink "KnockPipesLaw" 86 yX10_odds ∈ kp_wl := kp_t5 (i := 108) rfl rfl
theorem q5_109 : Cond.instanceMethod yX10_odds ∈ kp_wl := kp_t5 (i := 109) rfl rfl
theorem q5_110 : Cond.selects "KnockPipesModel" yX10_odds yX10_odds ∈ kp_wl := kp_t5 (i := 110) rfl rfl
theorem q5_111 : Cond.code yX10_odds cX10_odds 5 (some .int) ∈ kp_wl := kp_t5 (i := 111) rfl rfl
theorem q5_112 : Cond.methodLink "KnockPipesModel" 233 yX10_count1 ∈ kp_wl := kp_t5 (i := 112) rfl rfl
theorem q5_113 : Cond.static yX10_count1 ∈ kp_wl := kp_t5 (i := 113) rfl rfl
theorem q5_114 : Cond.code yX10_count1 cX10_count1 3 (some .int) ∈ kp_wl := kp_t5 (i := 114) rfl rfl
theorem q5_115 : Cond.methodLink "KnockPipesModel" 236 yX10_divisor ∈ kp_wl := kp_t5 (i := 115) rfl rfl
theorem q5_116 : Cond.static yX10_divisor ∈ kp_wl := kp_t5 (i := 116) rfl rfl
theorem q5_117 : Cond.code yX10_divisor cX10_divisor 5 (some .int) ∈ kp_wl := kp_t5 (i := 117) rfl rfl
theorem q5_118 : Cond.methodLink "KnockPipesLaw" 90 yX10_which ∈ kp_wl := kp_t5 (i := 118) rfl rfl
theorem q5_119 : Cond.instanceMethod yX10_which ∈ kp_wl := kp_t5 (i := 119) rfl rfl
theorem q5_120 : Cond.selects "KnockPipesModel" yX10_which yX10_which ∈ kp_wl := kp_t5 (i := 120) rfl rfl
theorem q5_121 : Cond.code yX10_which cX10_which 2 (some .int) ∈ kp_wl := kp_t5 (i := 121) rfl rfl
theorem q5_122 : Cond.methodLink "KnockPipesModel" 242 yX10_mostFitting ∈ kp_wl := kp_t5 (i := 122) rfl rfl
theorem q5_124 : Cond.instanceMethod yX10_mostFitting ∈ kp_wl := kp_t5 (i := 124) rfl rfl
theorem q5_125 : Cond.code yX10_mostFitting cX10_mostFitting 5 (some .int) ∈ kp_wl := kp_t5 (i := 125) rfl rfl
theorem q5_126 : Cond.methodLink "KnockPipesModel" 245 yX10_allFitting ∈ kp_wl := kp_t5 (i := 126) rfl rfl
theorem q5_128 : Cond.instanceMethod yX10_allFitting ∈ kp_wl := kp_t5 (i := 128) rfl rfl
theorem q5_129 : Cond.code yX10_allFitting cX10_allFitting 3 (some .int) ∈ kp_wl := kp_t5 (i := 129) rfl rfl
theorem q5_130 : Cond.methodLink "KnockPipesModel" 248 yX10_worst ∈ kp_wl := kp_t5 (i := 130) rfl rfl
theorem q5_132 : Cond.instanceMethod yX10_worst ∈ kp_wl := kp_t5 (i := 132) rfl rfl
theorem q5_133 : Cond.code yX10_worst cX10_worst 5 (some .int) ∈ kp_wl := kp_t5 (i := 133) rfl rfl
theorem q5_134 : Cond.methodLink "KnockPipesModel" 239 yX10_harmOf ∈ kp_wl := kp_t5 (i := 134) rfl rfl
theorem q5_136 : Cond.instanceMethod yX10_harmOf ∈ kp_wl := kp_t5 (i := 136) rfl rfl
theorem q5_137 : Cond.code yX10_harmOf cX10_harmOf 4 (some .int) ∈ kp_wl := kp_t5 (i := 137) rfl rfl
theorem q5_138 : Cond.methodLink "KnockPipesLaw" 94 yX10_next ∈ kp_wl := kp_t5 (i := 138) rfl rfl
theorem q5_139 : Cond.instanceMethod yX10_next ∈ kp_wl := kp_t5 (i := 139) rfl rfl
theorem q5_140 : Cond.selects "KnockPipesModel" yX10_next yX10_next ∈ kp_wl := kp_t5 (i := 140) rfl rfl
theorem q5_141 : Cond.code yX10_next cX10_next 9 (some .int) ∈ kp_wl := kp_t5 (i := 141) rfl rfl
theorem q5_142 : Cond.methodLink "KnockPipesLaw" 98 yX10_least ∈ kp_wl := kp_t5 (i := 142) rfl rfl
theorem q5_143 : Cond.instanceMethod yX10_least ∈ kp_wl := kp_t5 (i := 143) rfl rfl
theorem q5_144 : Cond.selects "KnockPipesModel" yX10_least yX10_least ∈ kp_wl := kp_t5 (i := 144) rfl rfl
theorem q5_145 : Cond.code yX10_least cX10_least 8 (some .int) ∈ kp_wl := kp_t5 (i := 145) rfl rfl
theorem q5_146 : Cond.methodLink "KnockPipesLaw" 102 yX10_eased ∈ kp_wl := kp_t5 (i := 146) rfl rfl
theorem q5_147 : Cond.instanceMethod yX10_eased ∈ kp_wl := kp_t5 (i := 147) rfl rfl
theorem q5_148 : Cond.selects "KnockPipesModel" yX10_eased yX10_eased ∈ kp_wl := kp_t5 (i := 148) rfl rfl
theorem q5_149 : Cond.code yX10_eased cX10_eased 5 (some .int) ∈ kp_wl := kp_t5 (i := 149) rfl rfl
theorem q5_150 : Cond.methodLink "KnockPipesLaw" 107 yX10_parted ∈ kp_wl := kp_t5 (i := 150) rfl rfl
theorem q5_151 : Cond.instanceMethod yX10_parted ∈ kp_wl := kp_t5 (i := 151) rfl rfl
theorem q5_152 : Cond.selects "KnockPipesModel" yX10_parted yX10_parted ∈ kp_wl := kp_t5 (i := 152) rfl rfl
theorem q5_153 : Cond.code yX10_parted cX10_parted 6 (some .long) ∈ kp_wl := kp_t5 (i := 153) rfl rfl
theorem q5_154 : Cond.constantLong "KnockPipesModel" 251 (-9223372036854775808) ∈ kp_wl := kp_t5 (i := 154) rfl rfl
theorem q5_155 : Cond.methodLink "KnockPipesLaw" 111 yX10_quiet ∈ kp_wl := kp_t5 (i := 155) rfl rfl
theorem q5_156 : Cond.instanceMethod yX10_quiet ∈ kp_wl := kp_t5 (i := 156) rfl rfl
theorem q5_157 : Cond.selects "KnockPipesModel" yX10_quiet yX10_quiet ∈ kp_wl := kp_t5 (i := 157) rfl rfl
theorem q5_158 : Cond.code yX10_quiet cX10_quiet 5 (some .int) ∈ kp_wl := kp_t5 (i := 158) rfl rfl
theorem q5_159 : Cond.methodLink "KnockPipesLaw" 115 yX10_moved ∈ kp_wl := kp_t5 (i := 159) rfl rfl
theorem q5_160 : Cond.instanceMethod yX10_moved ∈ kp_wl := kp_t5 (i := 160) rfl rfl
theorem q5_161 : Cond.selects "KnockPipesModel" yX10_moved yX10_moved ∈ kp_wl := kp_t5 (i := 161) rfl rfl
theorem q5_162 : Cond.code yX10_moved cX10_moved 8 (some .int) ∈ kp_wl := kp_t5 (i := 162) rfl rfl
theorem q5_163 : Cond.methodLink "KnockPipesLaw" 119 yX10_older ∈ kp_wl := kp_t5 (i := 163) rfl rfl
theorem q5_164 : Cond.instanceMethod yX10_older ∈ kp_wl := kp_t5 (i := 164) rfl rfl
theorem q5_165 : Cond.selects "KnockPipesModel" yX10_older yX10_older ∈ kp_wl := kp_t5 (i := 165) rfl rfl
theorem q5_166 : Cond.code yX10_older cX10_older 4 (some .int) ∈ kp_wl := kp_t5 (i := 166) rfl rfl
theorem q5_167 : Cond.methodLink "KnockPipesLaw" 123 yX10_harm ∈ kp_wl := kp_t5 (i := 167) rfl rfl
theorem q5_168 : Cond.instanceMethod yX10_harm ∈ kp_wl := kp_t5 (i := 168) rfl rfl
theorem q5_169 : Cond.selects "KnockPipesModel" yX10_harm yX10_harm ∈ kp_wl := kp_t5 (i := 169) rfl rfl
theorem q5_170 : Cond.code yX10_harm cX10_harm 2 (some .int) ∈ kp_wl := kp_t5 (i := 170) rfl rfl
theorem q5_171 : Cond.methodLink "KnockPipesLaw" 127 yX10_act ∈ kp_wl := kp_t5 (i := 171) rfl rfl
theorem q5_172 : Cond.instanceMethod yX10_act ∈ kp_wl := kp_t5 (i := 172) rfl rfl
theorem q5_173 : Cond.selects "KnockPipesModel" yX10_act yX10_act ∈ kp_wl := kp_t5 (i := 173) rfl rfl
theorem q5_174 : Cond.code yX10_act cX10_act 4 (some .int) ∈ kp_wl := kp_t5 (i := 174) rfl rfl
theorem q5_175 : Cond.methodLink "KnockPipesModel" 271 yX10_growsActs ∈ kp_wl := kp_t5 (i := 175) rfl rfl
theorem q5_177 : Cond.instanceMethod yX10_growsActs ∈ kp_wl := kp_t5 (i := 177) rfl rfl
theorem q5_178 : Cond.code yX10_growsActs cX10_growsActs 2 (some .int) ∈ kp_wl := kp_t5 (i := 178) rfl rfl
theorem q5_179 : Cond.methodLink "KnockPipesModel" 265 yX10_isUnder ∈ kp_wl := kp_t5 (i := 179) rfl rfl
theorem q5_180 : Cond.static yX10_isUnder ∈ kp_wl := kp_t5 (i := 180) rfl rfl
theorem q5_181 : Cond.code yX10_isUnder cX10_isUnder 2 (some .boolean) ∈ kp_wl := kp_t5 (i := 181) rfl rfl
theorem q5_182 : Cond.methodLink "KnockPipesModel" 256 yX10_runs ∈ kp_wl := kp_t5 (i := 182) rfl rfl
theorem q5_184 : Cond.instanceMethod yX10_runs ∈ kp_wl := kp_t5 (i := 184) rfl rfl
theorem q5_185 : Cond.code yX10_runs cX10_runs 2 none ∈ kp_wl := kp_t5 (i := 185) rfl rfl
theorem q5_186 : Cond.methodLink "KnockPipesModel" 268 yX10_plainGrows ∈ kp_wl := kp_t5 (i := 186) rfl rfl
theorem q5_188 : Cond.instanceMethod yX10_plainGrows ∈ kp_wl := kp_t5 (i := 188) rfl rfl
theorem q5_189 : Cond.code yX10_plainGrows cX10_plainGrows 2 (some .int) ∈ kp_wl := kp_t5 (i := 189) rfl rfl
theorem q5_190 : Cond.methodLink "KnockPipesModel" 280 yX10_strikesActs ∈ kp_wl := kp_t5 (i := 190) rfl rfl
theorem q5_192 : Cond.instanceMethod yX10_strikesActs ∈ kp_wl := kp_t5 (i := 192) rfl rfl
theorem q5_193 : Cond.code yX10_strikesActs cX10_strikesActs 2 (some .int) ∈ kp_wl := kp_t5 (i := 193) rfl rfl
theorem q5_194 : Cond.methodLink "KnockPipesModel" 277 yX10_plainStrikes ∈ kp_wl := kp_t5 (i := 194) rfl rfl
theorem q5_196 : Cond.instanceMethod yX10_plainStrikes ∈ kp_wl := kp_t5 (i := 196) rfl rfl
theorem q5_197 : Cond.code yX10_plainStrikes cX10_plainStrikes 2 (some .int) ∈ kp_wl := kp_t5 (i := 197) rfl rfl
theorem q5_198 : Cond.methodLink "KnockPipesModel" 286 yX10_tellsActs ∈ kp_wl := kp_t5 (i := 198) rfl rfl
theorem q5_200 : Cond.instanceMethod yX10_tellsActs ∈ kp_wl := kp_t5 (i := 200) rfl rfl
theorem q5_201 : Cond.code yX10_tellsActs cX10_tellsActs 3 (some .int) ∈ kp_wl := kp_t5 (i := 201) rfl rfl
theorem q5_202 : Cond.methodLink "KnockPipesModel" 283 yX10_plainTells ∈ kp_wl := kp_t5 (i := 202) rfl rfl
theorem q5_204 : Cond.instanceMethod yX10_plainTells ∈ kp_wl := kp_t5 (i := 204) rfl rfl
theorem q5_205 : Cond.code yX10_plainTells cX10_plainTells 2 (some .int) ∈ kp_wl := kp_t5 (i := 205) rfl rfl
theorem q5_206 : Cond.methodLink "KnockPipesLaw" 131 yX10_trace ∈ kp_wl := kp_t5 (i := 206) rfl rfl
theorem q5_207 : Cond.instanceMethod yX10_trace ∈ kp_wl := kp_t5 (i := 207) rfl rfl
theorem q5_208 : Cond.selects "KnockPipesModel" yX10_trace yX10_trace ∈ kp_wl := kp_t5 (i := 208) rfl rfl
theorem q5_209 : Cond.code yX10_trace cX10_trace 2 (some .int) ∈ kp_wl := kp_t5 (i := 209) rfl rfl
theorem q5_210 : Cond.methodLink "KnockPipesLaw" 135 yX10_as ∈ kp_wl := kp_t5 (i := 210) rfl rfl
theorem q5_211 : Cond.instanceMethod yX10_as ∈ kp_wl := kp_t5 (i := 211) rfl rfl
theorem q5_212 : Cond.selects "KnockPipesModel" yX10_as yX10_as ∈ kp_wl := kp_t5 (i := 212) rfl rfl
theorem q5_213 : Cond.code yX10_as cX10_as 3 (some .int) ∈ kp_wl := kp_t5 (i := 213) rfl rfl
theorem q5_214 : Cond.methodLink "KnockPipesLaw" 139 yX10_image ∈ kp_wl := kp_t5 (i := 214) rfl rfl
theorem q5_215 : Cond.instanceMethod yX10_image ∈ kp_wl := kp_t5 (i := 215) rfl rfl
theorem q5_216 : Cond.selects "KnockPipesModel" yX10_image yX10_image ∈ kp_wl := kp_t5 (i := 216) rfl rfl
theorem q5_217 : Cond.code yX10_image cX10_image 2 (some .int) ∈ kp_wl := kp_t5 (i := 217) rfl rfl
theorem q5_218 : Cond.methodLink "KnockPipesLaw" 143 yX10_undo ∈ kp_wl := kp_t5 (i := 218) rfl rfl
theorem q5_219 : Cond.instanceMethod yX10_undo ∈ kp_wl := kp_t5 (i := 219) rfl rfl
theorem q5_220 : Cond.selects "KnockPipesModel" yX10_undo yX10_undo ∈ kp_wl := kp_t5 (i := 220) rfl rfl
theorem q5_221 : Cond.code yX10_undo cX10_undo 2 (some .int) ∈ kp_wl := kp_t5 (i := 221) rfl rfl
theorem q5_222 : Cond.methodLink "KnockPipesLaw" 147 yX10_count ∈ kp_wl := kp_t5 (i := 222) rfl rfl
theorem q5_223 : Cond.instanceMethod yX10_count ∈ kp_wl := kp_t5 (i := 223) rfl rfl
theorem q5_224 : Cond.selects "KnockPipesModel" yX10_count yX10_count ∈ kp_wl := kp_t5 (i := 224) rfl rfl
theorem q5_225 : Cond.code yX10_count cX10_count 2 (some .int) ∈ kp_wl := kp_t5 (i := 225) rfl rfl
theorem q5_226 : Cond.constantLong "KnockPipesLaw" 13 (4294967295) ∈ kp_wl := kp_t5 (i := 226) rfl rfl
theorem q5_227 : Cond.fieldLink "java/lang/String" 15 "java/lang/String" "coder" "B" ∈ kp_wl := kp_t5 (i := 227) rfl rfl
theorem q5_228 : Cond.fieldLink "java/lang/String" 9 "java/lang/String" "value" "[B" ∈ kp_wl := kp_t5 (i := 228) rfl rfl
theorem q0_1_0 : Cond.selects "KnockPipes$Reader" yX5_clause yX5_clause ∈ kp_wl := kp_tp (List.mem_map.mpr ⟨(yX5_clause, 3), (List.mem_append_left _ (List.mem_of_getElem? (l := lw_privs_1) (i := 0) rfl)), rfl⟩) rfl
theorem q0_1_1 : Cond.selects "KnockPipes$Reader" yX5_word yX5_word ∈ kp_wl := kp_tp (List.mem_map.mpr ⟨(yX5_word, 3), (List.mem_append_left _ (List.mem_of_getElem? (l := lw_privs_1) (i := 1) rfl)), rfl⟩) rfl
theorem q0_1_2 : Cond.selects "KnockPipes$Reader" yX5_peek yX5_peek ∈ kp_wl := kp_tp (List.mem_map.mpr ⟨(yX5_peek, 3), (List.mem_append_left _ (List.mem_of_getElem? (l := lw_privs_1) (i := 2) rfl)), rfl⟩) rfl
theorem q0_1_3 : Cond.selects "KnockPipes$Reader" yX5_eats yX5_eats ∈ kp_wl := kp_tp (List.mem_map.mpr ⟨(yX5_eats, 3), (List.mem_append_left _ (List.mem_of_getElem? (l := lw_privs_1) (i := 3) rfl)), rfl⟩) rfl
theorem q0_1_4 : Cond.selects "KnockPipes$Reader" yX5_number yX5_number ∈ kp_wl := kp_tp (List.mem_map.mpr ⟨(yX5_number, 3), (List.mem_append_left _ (List.mem_of_getElem? (l := lw_privs_1) (i := 4) rfl)), rfl⟩) rfl
theorem q0_1_5 : Cond.selects "KnockPipes$Reader" yX5_digit yX5_digit ∈ kp_wl := kp_tp (List.mem_map.mpr ⟨(yX5_digit, 3), (List.mem_append_left _ (List.mem_of_getElem? (l := lw_privs_1) (i := 5) rfl)), rfl⟩) rfl
theorem q0_1_6 : Cond.selects "KnockPipes$Reader" yX5_either yX5_either ∈ kp_wl := kp_tp (List.mem_map.mpr ⟨(yX5_either, 3), (List.mem_append_left _ (List.mem_of_getElem? (l := lw_privs_1) (i := 6) rfl)), rfl⟩) rfl
theorem q0_1_7 : Cond.selects "KnockPipes$Reader" yX5_both yX5_both ∈ kp_wl := kp_tp (List.mem_map.mpr ⟨(yX5_both, 3), (List.mem_append_left _ (List.mem_of_getElem? (l := lw_privs_1) (i := 7) rfl)), rfl⟩) rfl
theorem q0_1_8 : Cond.selects "KnockPipes$Reader" yX5_factor yX5_factor ∈ kp_wl := kp_tp (List.mem_map.mpr ⟨(yX5_factor, 3), (List.mem_append_left _ (List.mem_of_getElem? (l := lw_privs_1) (i := 8) rfl)), rfl⟩) rfl
theorem q0_1_9 : Cond.selects "KnockPipes$Reader" yX5_test yX5_test ∈ kp_wl := kp_tp (List.mem_map.mpr ⟨(yX5_test, 3), (List.mem_append_left _ (List.mem_of_getElem? (l := lw_privs_1) (i := 9) rfl)), rfl⟩) rfl
theorem q0_1_10 : Cond.selects "KnockPipes$Reader" yX5_oneOf yX5_oneOf ∈ kp_wl := kp_tp (List.mem_map.mpr ⟨(yX5_oneOf, 3), (List.mem_append_left _ (List.mem_of_getElem? (l := lw_privs_1) (i := 10) rfl)), rfl⟩) rfl
theorem q0_1_11 : Cond.selects "KnockPipes" yX9_settle yX9_settle ∈ kp_wl := kp_tp (List.mem_map.mpr ⟨(yX9_settle, 8), (List.mem_append_left _ (List.mem_of_getElem? (l := lw_privs_1) (i := 11) rfl)), rfl⟩) rfl
theorem q0_1_12 : Cond.selects "KnockPipes$Sounds" yX6_holds yX6_holds ∈ kp_wl := kp_tp (List.mem_map.mpr ⟨(yX6_holds, 6), (List.mem_append_left _ (List.mem_of_getElem? (l := lw_privs_1) (i := 12) rfl)), rfl⟩) rfl
theorem q0_1_13 : Cond.selects "KnockPipes" yX9_ring yX9_ring ∈ kp_wl := kp_tp (List.mem_map.mpr ⟨(yX9_ring, 8), (List.mem_append_left _ (List.mem_of_getElem? (l := lw_privs_1) (i := 13) rfl)), rfl⟩) rfl
theorem q0_1_14 : Cond.selects "KnockPipes$Sounds" yX6_tick yX6_tick ∈ kp_wl := kp_tp (List.mem_map.mpr ⟨(yX6_tick, 6), (List.mem_append_left _ (List.mem_of_getElem? (l := lw_privs_1) (i := 14) rfl)), rfl⟩) rfl
theorem q0_1_15 : Cond.selects "KnockPipes$Sounds" yX6_mark yX6_mark ∈ kp_wl := kp_tp (List.mem_map.mpr ⟨(yX6_mark, 6), (List.mem_append_left _ (List.mem_of_getElem? (l := lw_privs_1) (i := 15) rfl)), rfl⟩) rfl
theorem q0_2_0 : Cond.selects "KnockPipes" yX9_loudOf yX9_loudOf ∈ kp_wl := kp_tp (List.mem_map.mpr ⟨(yX9_loudOf, 8), (List.mem_append_right _ (List.mem_append_left _ (List.mem_of_getElem? (l := lw_privs_2) (i := 0) rfl))), rfl⟩) rfl
theorem q0_2_1 : Cond.selects "KnockPipes" yX9_heardInDay yX9_heardInDay ∈ kp_wl := kp_tp (List.mem_map.mpr ⟨(yX9_heardInDay, 8), (List.mem_append_right _ (List.mem_append_left _ (List.mem_of_getElem? (l := lw_privs_2) (i := 1) rfl))), rfl⟩) rfl
theorem q0_2_2 : Cond.selects "KnockPipes" yX9_heardAt yX9_heardAt ∈ kp_wl := kp_tp (List.mem_map.mpr ⟨(yX9_heardAt, 8), (List.mem_append_right _ (List.mem_append_left _ (List.mem_of_getElem? (l := lw_privs_2) (i := 2) rfl))), rfl⟩) rfl
theorem q0_2_3 : Cond.selects "KnockPipes" yX9_heardAlone yX9_heardAlone ∈ kp_wl := kp_tp (List.mem_map.mpr ⟨(yX9_heardAlone, 8), (List.mem_append_right _ (List.mem_append_left _ (List.mem_of_getElem? (l := lw_privs_2) (i := 3) rfl))), rfl⟩) rfl
theorem q0_2_4 : Cond.selects "KnockPipes" yX9_heardOf yX9_heardOf ∈ kp_wl := kp_tp (List.mem_map.mpr ⟨(yX9_heardOf, 8), (List.mem_append_right _ (List.mem_append_left _ (List.mem_of_getElem? (l := lw_privs_2) (i := 4) rfl))), rfl⟩) rfl
theorem q0_2_5 : Cond.selects "KnockPipes" yX9_loudOfAll yX9_loudOfAll ∈ kp_wl := kp_tp (List.mem_map.mpr ⟨(yX9_loudOfAll, 8), (List.mem_append_right _ (List.mem_append_left _ (List.mem_of_getElem? (l := lw_privs_2) (i := 5) rfl))), rfl⟩) rfl
theorem q0_2_6 : Cond.selects "KnockPipes" yX9_fittingRows yX9_fittingRows ∈ kp_wl := kp_tp (List.mem_map.mpr ⟨(yX9_fittingRows, 8), (List.mem_append_right _ (List.mem_append_left _ (List.mem_of_getElem? (l := lw_privs_2) (i := 6) rfl))), rfl⟩) rfl
theorem q0_2_7 : Cond.selects "KnockPipes" yX9_mostFitting yX9_mostFitting ∈ kp_wl := kp_tp (List.mem_map.mpr ⟨(yX9_mostFitting, 8), (List.mem_append_right _ (List.mem_append_left _ (List.mem_of_getElem? (l := lw_privs_2) (i := 7) rfl))), rfl⟩) rfl
theorem q0_2_8 : Cond.selects "KnockPipes" yX9_allFitting yX9_allFitting ∈ kp_wl := kp_tp (List.mem_map.mpr ⟨(yX9_allFitting, 8), (List.mem_append_right _ (List.mem_append_left _ (List.mem_of_getElem? (l := lw_privs_2) (i := 8) rfl))), rfl⟩) rfl
theorem q0_2_9 : Cond.selects "KnockPipes" yX9_fitsAllRows yX9_fitsAllRows ∈ kp_wl := kp_tp (List.mem_map.mpr ⟨(yX9_fitsAllRows, 8), (List.mem_append_right _ (List.mem_append_left _ (List.mem_of_getElem? (l := lw_privs_2) (i := 9) rfl))), rfl⟩) rfl
theorem q0_2_10 : Cond.selects "KnockPipes" yX9_shareOf yX9_shareOf ∈ kp_wl := kp_tp (List.mem_map.mpr ⟨(yX9_shareOf, 8), (List.mem_append_right _ (List.mem_append_left _ (List.mem_of_getElem? (l := lw_privs_2) (i := 10) rfl))), rfl⟩) rfl
theorem q0_2_11 : Cond.selects "KnockPipes" yX9_worst yX9_worst ∈ kp_wl := kp_tp (List.mem_map.mpr ⟨(yX9_worst, 8), (List.mem_append_right _ (List.mem_append_left _ (List.mem_of_getElem? (l := lw_privs_2) (i := 11) rfl))), rfl⟩) rfl
theorem q0_2_12 : Cond.selects "KnockPipes" yX9_harmOf yX9_harmOf ∈ kp_wl := kp_tp (List.mem_map.mpr ⟨(yX9_harmOf, 8), (List.mem_append_right _ (List.mem_append_left _ (List.mem_of_getElem? (l := lw_privs_2) (i := 12) rfl))), rfl⟩) rfl
theorem q0_2_13 : Cond.selects "KnockPipes" yX9_mostAlike yX9_mostAlike ∈ kp_wl := kp_tp (List.mem_map.mpr ⟨(yX9_mostAlike, 8), (List.mem_append_right _ (List.mem_append_left _ (List.mem_of_getElem? (l := lw_privs_2) (i := 13) rfl))), rfl⟩) rfl
theorem q0_2_14 : Cond.selects "KnockPipes" yX9_heardInDayOf yX9_heardInDayOf ∈ kp_wl := kp_tp (List.mem_map.mpr ⟨(yX9_heardInDayOf, 8), (List.mem_append_right _ (List.mem_append_left _ (List.mem_of_getElem? (l := lw_privs_2) (i := 14) rfl))), rfl⟩) rfl
theorem q0_2_15 : Cond.selects "KnockPipes" yX9_rowsHeard yX9_rowsHeard ∈ kp_wl := kp_tp (List.mem_map.mpr ⟨(yX9_rowsHeard, 8), (List.mem_append_right _ (List.mem_append_left _ (List.mem_of_getElem? (l := lw_privs_2) (i := 15) rfl))), rfl⟩) rfl
theorem q0_3_0 : Cond.selects "KnockPipes$Acts" yX0_send yX0_send ∈ kp_wl := kp_tp (List.mem_map.mpr ⟨(yX0_send, 5), (List.mem_append_right _ (List.mem_append_right _ (List.mem_append_left _ (List.mem_of_getElem? (l := lw_privs_3) (i := 0) rfl)))), rfl⟩) rfl
theorem q0_3_1 : Cond.selects "KnockPipes$Acts" yX0_run yX0_run ∈ kp_wl := kp_tp (List.mem_map.mpr ⟨(yX0_run, 5), (List.mem_append_right _ (List.mem_append_right _ (List.mem_append_left _ (List.mem_of_getElem? (l := lw_privs_3) (i := 1) rfl)))), rfl⟩) rfl
theorem q0_3_2 : Cond.selects "KnockPipesModel" yX10_clauseHere yX10_clauseHere ∈ kp_wl := kp_tp (List.mem_map.mpr ⟨(yX10_clauseHere, 26), (List.mem_append_right _ (List.mem_append_right _ (List.mem_append_left _ (List.mem_of_getElem? (l := lw_privs_3) (i := 2) rfl)))), rfl⟩) rfl
theorem q0_3_3 : Cond.selects "KnockPipesModel" yX10_here yX10_here ∈ kp_wl := kp_tp (List.mem_map.mpr ⟨(yX10_here, 26), (List.mem_append_right _ (List.mem_append_right _ (List.mem_append_left _ (List.mem_of_getElem? (l := lw_privs_3) (i := 3) rfl)))), rfl⟩) rfl
theorem q0_3_4 : Cond.selects "KnockPipesModel" yX10_much yX10_much ∈ kp_wl := kp_tp (List.mem_map.mpr ⟨(yX10_much, 26), (List.mem_append_right _ (List.mem_append_right _ (List.mem_append_left _ (List.mem_of_getElem? (l := lw_privs_3) (i := 4) rfl)))), rfl⟩) rfl
theorem q0_3_5 : Cond.selects "KnockPipesModel" yX10_spells yX10_spells ∈ kp_wl := kp_tp (List.mem_map.mpr ⟨(yX10_spells, 26), (List.mem_append_right _ (List.mem_append_right _ (List.mem_append_left _ (List.mem_of_getElem? (l := lw_privs_3) (i := 5) rfl)))), rfl⟩) rfl
theorem q0_3_6 : Cond.selects "KnockPipesModel" yX10_must yX10_must ∈ kp_wl := kp_tp (List.mem_map.mpr ⟨(yX10_must, 26), (List.mem_append_right _ (List.mem_append_right _ (List.mem_append_left _ (List.mem_of_getElem? (l := lw_privs_3) (i := 6) rfl)))), rfl⟩) rfl
theorem q0_3_7 : Cond.selects "KnockPipesModel" yX10_figures yX10_figures ∈ kp_wl := kp_tp (List.mem_map.mpr ⟨(yX10_figures, 26), (List.mem_append_right _ (List.mem_append_right _ (List.mem_append_left _ (List.mem_of_getElem? (l := lw_privs_3) (i := 7) rfl)))), rfl⟩) rfl
theorem q0_3_8 : Cond.selects "KnockPipesModel" yX10_some yX10_some ∈ kp_wl := kp_tp (List.mem_map.mpr ⟨(yX10_some, 26), (List.mem_append_right _ (List.mem_append_right _ (List.mem_append_left _ (List.mem_of_getElem? (l := lw_privs_3) (i := 8) rfl)))), rfl⟩) rfl
theorem q0_3_9 : Cond.selects "KnockPipesModel" yX10_every yX10_every ∈ kp_wl := kp_tp (List.mem_map.mpr ⟨(yX10_every, 26), (List.mem_append_right _ (List.mem_append_right _ (List.mem_append_left _ (List.mem_of_getElem? (l := lw_privs_3) (i := 9) rfl)))), rfl⟩) rfl
theorem q0_3_10 : Cond.selects "KnockPipesModel" yX10_factor yX10_factor ∈ kp_wl := kp_tp (List.mem_map.mpr ⟨(yX10_factor, 26), (List.mem_append_right _ (List.mem_append_right _ (List.mem_append_left _ (List.mem_of_getElem? (l := lw_privs_3) (i := 10) rfl)))), rfl⟩) rfl
theorem q0_3_11 : Cond.selects "KnockPipesModel" yX10_emits yX10_emits ∈ kp_wl := kp_tp (List.mem_map.mpr ⟨(yX10_emits, 26), (List.mem_append_right _ (List.mem_append_right _ (List.mem_append_left _ (List.mem_of_getElem? (l := lw_privs_3) (i := 11) rfl)))), rfl⟩) rfl
theorem q0_3_12 : Cond.selects "KnockPipesModel" yX10_among yX10_among ∈ kp_wl := kp_tp (List.mem_map.mpr ⟨(yX10_among, 26), (List.mem_append_right _ (List.mem_append_right _ (List.mem_append_left _ (List.mem_of_getElem? (l := lw_privs_3) (i := 12) rfl)))), rfl⟩) rfl
theorem q0_3_13 : Cond.selects "KnockPipesModel" yX10_clauseOfH yX10_clauseOfH ∈ kp_wl := kp_tp (List.mem_map.mpr ⟨(yX10_clauseOfH, 26), (List.mem_append_right _ (List.mem_append_right _ (List.mem_append_left _ (List.mem_of_getElem? (l := lw_privs_3) (i := 13) rfl)))), rfl⟩) rfl
theorem q0_3_14 : Cond.selects "KnockPipesModel" yX10_tellsHere yX10_tellsHere ∈ kp_wl := kp_tp (List.mem_map.mpr ⟨(yX10_tellsHere, 26), (List.mem_append_right _ (List.mem_append_right _ (List.mem_append_left _ (List.mem_of_getElem? (l := lw_privs_3) (i := 14) rfl)))), rfl⟩) rfl
theorem q0_3_15 : Cond.selects "KnockPipesModel" yX10_tellsOf yX10_tellsOf ∈ kp_wl := kp_tp (List.mem_map.mpr ⟨(yX10_tellsOf, 26), (List.mem_append_right _ (List.mem_append_right _ (List.mem_append_left _ (List.mem_of_getElem? (l := lw_privs_3) (i := 15) rfl)))), rfl⟩) rfl
theorem q0_4_0 : Cond.selects "KnockPipesModel" yX10_warms yX10_warms ∈ kp_wl := kp_tp (List.mem_map.mpr ⟨(yX10_warms, 26), (List.mem_append_right _ (List.mem_append_right _ (List.mem_append_right _ (List.mem_append_left _ (List.mem_of_getElem? (l := lw_privs_4) (i := 0) rfl))))), rfl⟩) rfl
theorem q0_4_1 : Cond.selects "KnockPipesModel" yX10_isOn yX10_isOn ∈ kp_wl := kp_tp (List.mem_map.mpr ⟨(yX10_isOn, 26), (List.mem_append_right _ (List.mem_append_right _ (List.mem_append_right _ (List.mem_append_left _ (List.mem_of_getElem? (l := lw_privs_4) (i := 1) rfl))))), rfl⟩) rfl
theorem q0_4_2 : Cond.selects "KnockPipesModel" yX10_isNoise yX10_isNoise ∈ kp_wl := kp_tp (List.mem_map.mpr ⟨(yX10_isNoise, 26), (List.mem_append_right _ (List.mem_append_right _ (List.mem_append_right _ (List.mem_append_left _ (List.mem_of_getElem? (l := lw_privs_4) (i := 2) rfl))))), rfl⟩) rfl
theorem q0_4_3 : Cond.selects "KnockPipesModel" yX10_goes yX10_goes ∈ kp_wl := kp_tp (List.mem_map.mpr ⟨(yX10_goes, 26), (List.mem_append_right _ (List.mem_append_right _ (List.mem_append_right _ (List.mem_append_left _ (List.mem_of_getElem? (l := lw_privs_4) (i := 3) rfl))))), rfl⟩) rfl
theorem q0_4_4 : Cond.selects "KnockPipesModel" yX10_goesOf yX10_goesOf ∈ kp_wl := kp_tp (List.mem_map.mpr ⟨(yX10_goesOf, 26), (List.mem_append_right _ (List.mem_append_right _ (List.mem_append_right _ (List.mem_append_left _ (List.mem_of_getElem? (l := lw_privs_4) (i := 4) rfl))))), rfl⟩) rfl
theorem q0_4_5 : Cond.selects "KnockPipesModel" yX10_ticks yX10_ticks ∈ kp_wl := kp_tp (List.mem_map.mpr ⟨(yX10_ticks, 26), (List.mem_append_right _ (List.mem_append_right _ (List.mem_append_right _ (List.mem_append_left _ (List.mem_of_getElem? (l := lw_privs_4) (i := 5) rfl))))), rfl⟩) rfl
theorem q0_4_6 : Cond.selects "KnockPipesModel" yX10_lengthOf yX10_lengthOf ∈ kp_wl := kp_tp (List.mem_map.mpr ⟨(yX10_lengthOf, 26), (List.mem_append_right _ (List.mem_append_right _ (List.mem_append_right _ (List.mem_append_left _ (List.mem_of_getElem? (l := lw_privs_4) (i := 6) rfl))))), rfl⟩) rfl
theorem q0_4_7 : Cond.selects "KnockPipesModel" yX10_looksAt yX10_looksAt ∈ kp_wl := kp_tp (List.mem_map.mpr ⟨(yX10_looksAt, 26), (List.mem_append_right _ (List.mem_append_right _ (List.mem_append_right _ (List.mem_append_left _ (List.mem_of_getElem? (l := lw_privs_4) (i := 7) rfl))))), rfl⟩) rfl
theorem q0_4_8 : Cond.selects "KnockPipesModel" yX10_strikesBy yX10_strikesBy ∈ kp_wl := kp_tp (List.mem_map.mpr ⟨(yX10_strikesBy, 26), (List.mem_append_right _ (List.mem_append_right _ (List.mem_append_right _ (List.mem_append_left _ (List.mem_of_getElem? (l := lw_privs_4) (i := 8) rfl))))), rfl⟩) rfl
theorem q0_4_9 : Cond.selects "KnockPipesModel" yX10_hums yX10_hums ∈ kp_wl := kp_tp (List.mem_map.mpr ⟨(yX10_hums, 26), (List.mem_append_right _ (List.mem_append_right _ (List.mem_append_right _ (List.mem_append_left _ (List.mem_of_getElem? (l := lw_privs_4) (i := 9) rfl))))), rfl⟩) rfl
theorem q0_4_10 : Cond.selects "KnockPipesModel" yX10_plainly yX10_plainly ∈ kp_wl := kp_tp (List.mem_map.mpr ⟨(yX10_plainly, 26), (List.mem_append_right _ (List.mem_append_right _ (List.mem_append_right _ (List.mem_append_left _ (List.mem_of_getElem? (l := lw_privs_4) (i := 10) rfl))))), rfl⟩) rfl
theorem q0_4_11 : Cond.selects "KnockPipesModel" yX10_isStill yX10_isStill ∈ kp_wl := kp_tp (List.mem_map.mpr ⟨(yX10_isStill, 26), (List.mem_append_right _ (List.mem_append_right _ (List.mem_append_right _ (List.mem_append_left _ (List.mem_of_getElem? (l := lw_privs_4) (i := 11) rfl))))), rfl⟩) rfl
theorem q0_4_12 : Cond.selects "KnockPipesModel" yX10_loudOf yX10_loudOf ∈ kp_wl := kp_tp (List.mem_map.mpr ⟨(yX10_loudOf, 26), (List.mem_append_right _ (List.mem_append_right _ (List.mem_append_right _ (List.mem_append_left _ (List.mem_of_getElem? (l := lw_privs_4) (i := 12) rfl))))), rfl⟩) rfl
theorem q0_4_13 : Cond.selects "KnockPipesModel" yX10_isStruck yX10_isStruck ∈ kp_wl := kp_tp (List.mem_map.mpr ⟨(yX10_isStruck, 26), (List.mem_append_right _ (List.mem_append_right _ (List.mem_append_right _ (List.mem_append_left _ (List.mem_of_getElem? (l := lw_privs_4) (i := 13) rfl))))), rfl⟩) rfl
theorem q0_4_14 : Cond.selects "KnockPipesModel" yX10_moving yX10_moving ∈ kp_wl := kp_tp (List.mem_map.mpr ⟨(yX10_moving, 26), (List.mem_append_right _ (List.mem_append_right _ (List.mem_append_right _ (List.mem_append_left _ (List.mem_of_getElem? (l := lw_privs_4) (i := 14) rfl))))), rfl⟩) rfl
theorem q0_4_15 : Cond.selects "KnockPipesModel" yX10_heardAll yX10_heardAll ∈ kp_wl := kp_tp (List.mem_map.mpr ⟨(yX10_heardAll, 26), (List.mem_append_right _ (List.mem_append_right _ (List.mem_append_right _ (List.mem_append_left _ (List.mem_of_getElem? (l := lw_privs_4) (i := 15) rfl))))), rfl⟩) rfl
theorem q0_5_0 : Cond.selects "KnockPipesModel" yX10_heardOf yX10_heardOf ∈ kp_wl := kp_tp (List.mem_map.mpr ⟨(yX10_heardOf, 26), (List.mem_append_right _ (List.mem_append_right _ (List.mem_append_right _ (List.mem_append_right _ ((List.mem_of_getElem? (l := lw_privs_5) (i := 0) rfl)))))), rfl⟩) rfl
theorem q0_5_1 : Cond.selects "KnockPipesModel" yX10_fitsOf yX10_fitsOf ∈ kp_wl := kp_tp (List.mem_map.mpr ⟨(yX10_fitsOf, 26), (List.mem_append_right _ (List.mem_append_right _ (List.mem_append_right _ (List.mem_append_right _ ((List.mem_of_getElem? (l := lw_privs_5) (i := 1) rfl)))))), rfl⟩) rfl
theorem q0_5_2 : Cond.selects "KnockPipesModel" yX10_mostFitting yX10_mostFitting ∈ kp_wl := kp_tp (List.mem_map.mpr ⟨(yX10_mostFitting, 26), (List.mem_append_right _ (List.mem_append_right _ (List.mem_append_right _ (List.mem_append_right _ ((List.mem_of_getElem? (l := lw_privs_5) (i := 2) rfl)))))), rfl⟩) rfl
theorem q0_5_3 : Cond.selects "KnockPipesModel" yX10_allFitting yX10_allFitting ∈ kp_wl := kp_tp (List.mem_map.mpr ⟨(yX10_allFitting, 26), (List.mem_append_right _ (List.mem_append_right _ (List.mem_append_right _ (List.mem_append_right _ ((List.mem_of_getElem? (l := lw_privs_5) (i := 3) rfl)))))), rfl⟩) rfl
theorem q0_5_4 : Cond.selects "KnockPipesModel" yX10_worst yX10_worst ∈ kp_wl := kp_tp (List.mem_map.mpr ⟨(yX10_worst, 26), (List.mem_append_right _ (List.mem_append_right _ (List.mem_append_right _ (List.mem_append_right _ ((List.mem_of_getElem? (l := lw_privs_5) (i := 4) rfl)))))), rfl⟩) rfl
theorem q0_5_5 : Cond.selects "KnockPipesModel" yX10_harmOf yX10_harmOf ∈ kp_wl := kp_tp (List.mem_map.mpr ⟨(yX10_harmOf, 26), (List.mem_append_right _ (List.mem_append_right _ (List.mem_append_right _ (List.mem_append_right _ ((List.mem_of_getElem? (l := lw_privs_5) (i := 5) rfl)))))), rfl⟩) rfl
theorem q0_5_6 : Cond.selects "KnockPipesModel" yX10_growsActs yX10_growsActs ∈ kp_wl := kp_tp (List.mem_map.mpr ⟨(yX10_growsActs, 26), (List.mem_append_right _ (List.mem_append_right _ (List.mem_append_right _ (List.mem_append_right _ ((List.mem_of_getElem? (l := lw_privs_5) (i := 6) rfl)))))), rfl⟩) rfl
theorem q0_5_7 : Cond.selects "KnockPipesModel" yX10_runs yX10_runs ∈ kp_wl := kp_tp (List.mem_map.mpr ⟨(yX10_runs, 26), (List.mem_append_right _ (List.mem_append_right _ (List.mem_append_right _ (List.mem_append_right _ ((List.mem_of_getElem? (l := lw_privs_5) (i := 7) rfl)))))), rfl⟩) rfl
theorem q0_5_8 : Cond.selects "KnockPipesModel" yX10_plainGrows yX10_plainGrows ∈ kp_wl := kp_tp (List.mem_map.mpr ⟨(yX10_plainGrows, 26), (List.mem_append_right _ (List.mem_append_right _ (List.mem_append_right _ (List.mem_append_right _ ((List.mem_of_getElem? (l := lw_privs_5) (i := 8) rfl)))))), rfl⟩) rfl
theorem q0_5_9 : Cond.selects "KnockPipesModel" yX10_strikesActs yX10_strikesActs ∈ kp_wl := kp_tp (List.mem_map.mpr ⟨(yX10_strikesActs, 26), (List.mem_append_right _ (List.mem_append_right _ (List.mem_append_right _ (List.mem_append_right _ ((List.mem_of_getElem? (l := lw_privs_5) (i := 9) rfl)))))), rfl⟩) rfl
theorem q0_5_10 : Cond.selects "KnockPipesModel" yX10_plainStrikes yX10_plainStrikes ∈ kp_wl := kp_tp (List.mem_map.mpr ⟨(yX10_plainStrikes, 26), (List.mem_append_right _ (List.mem_append_right _ (List.mem_append_right _ (List.mem_append_right _ ((List.mem_of_getElem? (l := lw_privs_5) (i := 10) rfl)))))), rfl⟩) rfl
theorem q0_5_11 : Cond.selects "KnockPipesModel" yX10_tellsActs yX10_tellsActs ∈ kp_wl := kp_tp (List.mem_map.mpr ⟨(yX10_tellsActs, 26), (List.mem_append_right _ (List.mem_append_right _ (List.mem_append_right _ (List.mem_append_right _ ((List.mem_of_getElem? (l := lw_privs_5) (i := 11) rfl)))))), rfl⟩) rfl
theorem q0_5_12 : Cond.selects "KnockPipesModel" yX10_plainTells yX10_plainTells ∈ kp_wl := kp_tp (List.mem_map.mpr ⟨(yX10_plainTells, 26), (List.mem_append_right _ (List.mem_append_right _ (List.mem_append_right _ (List.mem_append_right _ ((List.mem_of_getElem? (l := lw_privs_5) (i := 12) rfl)))))), rfl⟩) rfl
theorem inWX0 : ∀ w ∈ u_ws RX0 TX0 5, w ∈ kp_wl := (List.forall_mem_cons.mpr ⟨q2_3, (List.forall_mem_cons.mpr ⟨q2_5, (List.forall_mem_cons.mpr ⟨q2_7, (List.forall_mem_cons.mpr ⟨q2_9, (List.forall_mem_cons.mpr ⟨q2_11, (fun _ h => by cases h)⟩)⟩)⟩)⟩)⟩)
theorem inWX1 : ∀ w ∈ u_ws RX1 TX1 6, w ∈ kp_wl := (List.forall_mem_cons.mpr ⟨q1_169, (List.forall_mem_cons.mpr ⟨q1_171, (List.forall_mem_cons.mpr ⟨q1_173, (List.forall_mem_cons.mpr ⟨q1_175, (List.forall_mem_cons.mpr ⟨q1_177, (List.forall_mem_cons.mpr ⟨q1_179, (fun _ h => by cases h)⟩)⟩)⟩)⟩)⟩)⟩)
theorem inWX2 : ∀ w ∈ u_ws RX2 TX2 7, w ∈ kp_wl := (List.forall_mem_cons.mpr ⟨q1_82, (List.forall_mem_cons.mpr ⟨q1_84, (List.forall_mem_cons.mpr ⟨q1_86, (List.forall_mem_cons.mpr ⟨q1_88, (List.forall_mem_cons.mpr ⟨q1_90, (List.forall_mem_cons.mpr ⟨q1_92, (List.forall_mem_cons.mpr ⟨q1_94, (fun _ h => by cases h)⟩)⟩)⟩)⟩)⟩)⟩)⟩)
theorem inWX3 : ∀ w ∈ u_ws RX3 TX3 6, w ∈ kp_wl := (List.forall_mem_cons.mpr ⟨q1_121, (List.forall_mem_cons.mpr ⟨q1_123, (List.forall_mem_cons.mpr ⟨q1_125, (List.forall_mem_cons.mpr ⟨q1_127, (List.forall_mem_cons.mpr ⟨q1_129, (List.forall_mem_cons.mpr ⟨q1_131, (fun _ h => by cases h)⟩)⟩)⟩)⟩)⟩)⟩)
theorem inWX4 : ∀ w ∈ u_ws RX4 TX4 4, w ∈ kp_wl := (List.forall_mem_cons.mpr ⟨q1_148, (List.forall_mem_cons.mpr ⟨q1_150, (List.forall_mem_cons.mpr ⟨q1_152, (List.forall_mem_cons.mpr ⟨q1_154, (fun _ h => by cases h)⟩)⟩)⟩)⟩)
theorem inWX5 : ∀ w ∈ u_ws RX5 TX5 3, w ∈ kp_wl := (List.forall_mem_cons.mpr ⟨q1_197, (List.forall_mem_cons.mpr ⟨q1_199, (List.forall_mem_cons.mpr ⟨q1_201, (fun _ h => by cases h)⟩)⟩)⟩)
theorem inWX6 : ∀ w ∈ u_ws RX6 TX6 6, w ∈ kp_wl := (List.forall_mem_cons.mpr ⟨q1_217, (List.forall_mem_cons.mpr ⟨q1_219, (List.forall_mem_cons.mpr ⟨q1_221, (List.forall_mem_cons.mpr ⟨q1_223, (List.forall_mem_cons.mpr ⟨q1_225, (List.forall_mem_cons.mpr ⟨q1_227, (fun _ h => by cases h)⟩)⟩)⟩)⟩)⟩)⟩)
theorem inWX7 : ∀ w ∈ u_ws RX7 TX7 2, w ∈ kp_wl := (List.forall_mem_cons.mpr ⟨q1_45, (List.forall_mem_cons.mpr ⟨q1_47, (fun _ h => by cases h)⟩)⟩)
theorem inWX9 : ∀ w ∈ u_ws RX9 TX9 8, w ∈ kp_wl := (List.forall_mem_cons.mpr ⟨q2_22, (List.forall_mem_cons.mpr ⟨q2_24, (List.forall_mem_cons.mpr ⟨q2_26, (List.forall_mem_cons.mpr ⟨q2_28, (List.forall_mem_cons.mpr ⟨q2_30, (List.forall_mem_cons.mpr ⟨q2_32, (List.forall_mem_cons.mpr ⟨q2_34, (List.forall_mem_cons.mpr ⟨q2_36, (fun _ h => by cases h)⟩)⟩)⟩)⟩)⟩)⟩)⟩)⟩)
theorem inWX10 : ∀ w ∈ u_ws RX10 TX10 26, w ∈ kp_wl := (List.forall_mem_cons.mpr ⟨q4_81, (List.forall_mem_cons.mpr ⟨q4_83, (List.forall_mem_cons.mpr ⟨q4_85, (List.forall_mem_cons.mpr ⟨q4_87, (List.forall_mem_cons.mpr ⟨q4_89, (List.forall_mem_cons.mpr ⟨q4_91, (List.forall_mem_cons.mpr ⟨q4_93, (List.forall_mem_cons.mpr ⟨q4_95, (List.forall_mem_cons.mpr ⟨q4_97, (List.forall_mem_cons.mpr ⟨q4_99, (List.forall_mem_cons.mpr ⟨q4_101, (List.forall_mem_cons.mpr ⟨q4_103, (List.forall_mem_cons.mpr ⟨q4_105, (List.forall_mem_cons.mpr ⟨q4_107, (List.forall_mem_cons.mpr ⟨q4_109, (List.forall_mem_cons.mpr ⟨q4_111, (List.forall_mem_cons.mpr ⟨q4_113, (List.forall_mem_cons.mpr ⟨q4_115, (List.forall_mem_cons.mpr ⟨q4_117, (List.forall_mem_cons.mpr ⟨q4_119, (List.forall_mem_cons.mpr ⟨q4_121, (List.forall_mem_cons.mpr ⟨q4_123, (List.forall_mem_cons.mpr ⟨q4_125, (List.forall_mem_cons.mpr ⟨q4_127, (List.forall_mem_cons.mpr ⟨q4_129, (List.forall_mem_cons.mpr ⟨q4_131, (fun _ h => by cases h)⟩)⟩)⟩)⟩)⟩)⟩)⟩)⟩)⟩)⟩)⟩)⟩)⟩)⟩)⟩)⟩)⟩)⟩)⟩)⟩)⟩)⟩)⟩)⟩)⟩)⟩)
end
section
-- decode rows, as printed (NAMES.whole)
theorem dX0_init_0 : decode cX0_init 0 = .ok (.aload_n 0, 1) := by decide +kernel
theorem dX0_init_1 : decode cX0_init 1 = .ok (.invokespecial 3, 3) := by decide +kernel
theorem dX0_init_4 : decode cX0_init 4 = .ok (.aload_n 0, 1) := by decide +kernel
theorem dX0_init_5 : decode cX0_init 5 = .ok (.bipush 20, 2) := by decide +kernel
theorem dX0_init_7 : decode cX0_init 7 = .ok (.newarray .int, 2) := by decide +kernel
theorem dX0_init_9 : decode cX0_init 9 = .ok (.putfield 11, 3) := by decide +kernel
theorem dX0_init_12 : decode cX0_init 12 = .ok (.aload_n 0, 1) := by decide +kernel
theorem dX0_init_13 : decode cX0_init 13 = .ok (.iconst 0, 1) := by decide +kernel
theorem dX0_init_14 : decode cX0_init 14 = .ok (.putfield 15, 3) := by decide +kernel
theorem dX0_init_17 : decode cX0_init 17 = .ok (.aload_n 0, 1) := by decide +kernel
theorem dX0_init_18 : decode cX0_init 18 = .ok (.iconst 0, 1) := by decide +kernel
theorem dX0_init_19 : decode cX0_init 19 = .ok (.putfield 19, 3) := by decide +kernel
theorem dX0_init_22 : decode cX0_init 22 = .ok (.aload_n 0, 1) := by decide +kernel
theorem dX0_init_23 : decode cX0_init 23 = .ok (.iconst 0, 1) := by decide +kernel
theorem dX0_init_24 : decode cX0_init 24 = .ok (.putfield 22, 3) := by decide +kernel
theorem dX0_init_27 : decode cX0_init 27 = .ok (.aload_n 0, 1) := by decide +kernel
theorem dX0_init_28 : decode cX0_init 28 = .ok (.iconst 0, 1) := by decide +kernel
theorem dX0_init_29 : decode cX0_init 29 = .ok (.putfield 25, 3) := by decide +kernel
theorem dX0_init_32 : decode cX0_init 32 = .ok (.return_, 1) := by decide +kernel
theorem dX0_start_0 : decode cX0_start 0 = .ok (.aload_n 0, 1) := by decide +kernel
theorem dX0_start_1 : decode cX0_start 1 = .ok (.iconst 0, 1) := by decide +kernel
theorem dX0_start_2 : decode cX0_start 2 = .ok (.putfield 15, 3) := by decide +kernel
theorem dX0_start_5 : decode cX0_start 5 = .ok (.aload_n 0, 1) := by decide +kernel
theorem dX0_start_6 : decode cX0_start 6 = .ok (.aload_n 1, 1) := by decide +kernel
theorem dX0_start_7 : decode cX0_start 7 = .ok (.getfield 28, 3) := by decide +kernel
theorem dX0_start_10 : decode cX0_start 10 = .ok (.iload_n 2, 1) := by decide +kernel
theorem dX0_start_11 : decode cX0_start 11 = .ok (.iaload, 1) := by decide +kernel
theorem dX0_start_12 : decode cX0_start 12 = .ok (.putfield 19, 3) := by decide +kernel
theorem dX0_start_15 : decode cX0_start 15 = .ok (.aload_n 0, 1) := by decide +kernel
theorem dX0_start_16 : decode cX0_start 16 = .ok (.iload_n 2, 1) := by decide +kernel
theorem dX0_start_17 : decode cX0_start 17 = .ok (.putfield 22, 3) := by decide +kernel
theorem dX0_start_20 : decode cX0_start 20 = .ok (.aload_n 0, 1) := by decide +kernel
theorem dX0_start_21 : decode cX0_start 21 = .ok (.aload_n 1, 1) := by decide +kernel
theorem dX0_start_22 : decode cX0_start 22 = .ok (.getfield 32, 3) := by decide +kernel
theorem dX0_start_25 : decode cX0_start 25 = .ok (.iload_n 2, 1) := by decide +kernel
theorem dX0_start_26 : decode cX0_start 26 = .ok (.iaload, 1) := by decide +kernel
theorem dX0_start_27 : decode cX0_start 27 = .ok (.putfield 25, 3) := by decide +kernel
theorem dX0_start_30 : decode cX0_start 30 = .ok (.aload_n 0, 1) := by decide +kernel
theorem dX0_start_31 : decode cX0_start 31 = .ok (.aload_n 0, 1) := by decide +kernel
theorem dX0_start_32 : decode cX0_start 32 = .ok (.getfield 19, 3) := by decide +kernel
theorem dX0_start_35 : decode cX0_start 35 = .ok (.iload_n 3, 1) := by decide +kernel
theorem dX0_start_36 : decode cX0_start 36 = .ok (.iload 4, 2) := by decide +kernel
theorem dX0_start_38 : decode cX0_start 38 = .ok (.iconst 0, 1) := by decide +kernel
theorem dX0_start_39 : decode cX0_start 39 = .ok (.invokevirtual 34, 3) := by decide +kernel
theorem dX0_start_42 : decode cX0_start 42 = .ok (.ireturn, 1) := by decide +kernel
theorem dX0_send_0 : decode cX0_send 0 = .ok (.iload 4, 2) := by decide +kernel
theorem dX0_send_2 : decode cX0_send 2 = .ok (.bipush 20, 2) := by decide +kernel
theorem dX0_send_4 : decode cX0_send 4 = .ok (.if_icmp .le 5, 3) := by decide +kernel
theorem dX0_send_7 : decode cX0_send 7 = .ok (.iconst 0, 1) := by decide +kernel
theorem dX0_send_8 : decode cX0_send 8 = .ok (.ireturn, 1) := by decide +kernel
theorem dX0_send_9 : decode cX0_send 9 = .ok (.iload_n 1, 1) := by decide +kernel
theorem dX0_send_10 : decode cX0_send 10 = .ok (.istore 5, 2) := by decide +kernel
theorem dX0_send_12 : decode cX0_send 12 = .ok (.iconst 0, 1) := by decide +kernel
theorem dX0_send_13 : decode cX0_send 13 = .ok (.istore 6, 2) := by decide +kernel
theorem dX0_send_15 : decode cX0_send 15 = .ok (.iload 6, 2) := by decide +kernel
theorem dX0_send_17 : decode cX0_send 17 = .ok (.bipush 7, 2) := by decide +kernel
theorem dX0_send_19 : decode cX0_send 19 = .ok (.if_icmp .ge 60, 3) := by decide +kernel
theorem dX0_send_22 : decode cX0_send 22 = .ok (.iload 5, 2) := by decide +kernel
theorem dX0_send_24 : decode cX0_send 24 = .ok (.invokestatic 38, 3) := by decide +kernel
theorem dX0_send_27 : decode cX0_send 27 = .ok (.ifCond .eq 52, 3) := by decide +kernel
theorem dX0_send_30 : decode cX0_send 30 = .ok (.getstatic 42, 3) := by decide +kernel
theorem dX0_send_33 : decode cX0_send 33 = .ok (.iload 5, 2) := by decide +kernel
theorem dX0_send_35 : decode cX0_send 35 = .ok (.iconst 3, 1) := by decide +kernel
theorem dX0_send_36 : decode cX0_send 36 = .ok (.imul, 1) := by decide +kernel
theorem dX0_send_37 : decode cX0_send 37 = .ok (.iload_n 2, 1) := by decide +kernel
theorem dX0_send_38 : decode cX0_send 38 = .ok (.iadd, 1) := by decide +kernel
theorem dX0_send_39 : decode cX0_send 39 = .ok (.iaload, 1) := by decide +kernel
theorem dX0_send_40 : decode cX0_send 40 = .ok (.istore 7, 2) := by decide +kernel
theorem dX0_send_42 : decode cX0_send 42 = .ok (.iload 7, 2) := by decide +kernel
theorem dX0_send_44 : decode cX0_send 44 = .ok (.ifCond .eq 21, 3) := by decide +kernel
theorem dX0_send_47 : decode cX0_send 47 = .ok (.aload_n 0, 1) := by decide +kernel
theorem dX0_send_48 : decode cX0_send 48 = .ok (.iload 7, 2) := by decide +kernel
theorem dX0_send_50 : decode cX0_send 50 = .ok (.getstatic 45, 3) := by decide +kernel
theorem dX0_send_53 : decode cX0_send 53 = .ok (.iload 5, 2) := by decide +kernel
theorem dX0_send_55 : decode cX0_send 55 = .ok (.iaload, 1) := by decide +kernel
theorem dX0_send_56 : decode cX0_send 56 = .ok (.iload_n 3, 1) := by decide +kernel
theorem dX0_send_57 : decode cX0_send 57 = .ok (.iload 4, 2) := by decide +kernel
theorem dX0_send_59 : decode cX0_send 59 = .ok (.iconst 1, 1) := by decide +kernel
theorem dX0_send_60 : decode cX0_send 60 = .ok (.iadd, 1) := by decide +kernel
theorem dX0_send_61 : decode cX0_send 61 = .ok (.invokevirtual 48, 3) := by decide +kernel
theorem dX0_send_64 : decode cX0_send 64 = .ok (.ireturn, 1) := by decide +kernel
theorem dX0_send_65 : decode cX0_send 65 = .ok (.getstatic 45, 3) := by decide +kernel
theorem dX0_send_68 : decode cX0_send 68 = .ok (.iload 5, 2) := by decide +kernel
theorem dX0_send_70 : decode cX0_send 70 = .ok (.iaload, 1) := by decide +kernel
theorem dX0_send_71 : decode cX0_send 71 = .ok (.istore 5, 2) := by decide +kernel
theorem dX0_send_73 : decode cX0_send 73 = .ok (.iinc 6 1, 3) := by decide +kernel
theorem dX0_send_76 : decode cX0_send 76 = .ok (.goto (-61), 3) := by decide +kernel
theorem dX0_send_79 : decode cX0_send 79 = .ok (.iconst 0, 1) := by decide +kernel
theorem dX0_send_80 : decode cX0_send 80 = .ok (.ireturn, 1) := by decide +kernel
theorem dX0_run_0 : decode cX0_run 0 = .ok (.aload_n 0, 1) := by decide +kernel
theorem dX0_run_1 : decode cX0_run 1 = .ok (.getfield 15, 3) := by decide +kernel
theorem dX0_run_4 : decode cX0_run 4 = .ok (.ifCond .lt 25, 3) := by decide +kernel
theorem dX0_run_7 : decode cX0_run 7 = .ok (.aload_n 0, 1) := by decide +kernel
theorem dX0_run_8 : decode cX0_run 8 = .ok (.getfield 15, 3) := by decide +kernel
theorem dX0_run_11 : decode cX0_run 11 = .ok (.aload_n 0, 1) := by decide +kernel
theorem dX0_run_12 : decode cX0_run 12 = .ok (.getfield 11, 3) := by decide +kernel
theorem dX0_run_15 : decode cX0_run 15 = .ok (.arraylength, 1) := by decide +kernel
theorem dX0_run_16 : decode cX0_run 16 = .ok (.if_icmp .ge 13, 3) := by decide +kernel
theorem dX0_run_19 : decode cX0_run 19 = .ok (.aload_n 0, 1) := by decide +kernel
theorem dX0_run_20 : decode cX0_run 20 = .ok (.getfield 11, 3) := by decide +kernel
theorem dX0_run_23 : decode cX0_run 23 = .ok (.aload_n 0, 1) := by decide +kernel
theorem dX0_run_24 : decode cX0_run 24 = .ok (.getfield 15, 3) := by decide +kernel
theorem dX0_run_27 : decode cX0_run 27 = .ok (.iload_n 1, 1) := by decide +kernel
theorem dX0_run_28 : decode cX0_run 28 = .ok (.iastore, 1) := by decide +kernel
theorem dX0_run_29 : decode cX0_run 29 = .ok (.aload_n 0, 1) := by decide +kernel
theorem dX0_run_30 : decode cX0_run 30 = .ok (.dup, 1) := by decide +kernel
theorem dX0_run_31 : decode cX0_run 31 = .ok (.getfield 15, 3) := by decide +kernel
theorem dX0_run_34 : decode cX0_run 34 = .ok (.iconst 1, 1) := by decide +kernel
theorem dX0_run_35 : decode cX0_run 35 = .ok (.iadd, 1) := by decide +kernel
theorem dX0_run_36 : decode cX0_run 36 = .ok (.putfield 15, 3) := by decide +kernel
theorem dX0_run_39 : decode cX0_run 39 = .ok (.iload_n 1, 1) := by decide +kernel
theorem dX0_run_40 : decode cX0_run 40 = .ok (.lookupswitch 215 #[(1, 84), (2, 91), (3, 109), (11, 124), (21, 136), (31, 147), (41, 160), (51, 185), (61, 200)], 84) := by decide +kernel
theorem dX0_run_124 : decode cX0_run 124 = .ok (.iload_n 3, 1) := by decide +kernel
theorem dX0_run_125 : decode cX0_run 125 = .ok (.aload_n 0, 1) := by decide +kernel
theorem dX0_run_126 : decode cX0_run 126 = .ok (.getfield 22, 3) := by decide +kernel
theorem dX0_run_129 : decode cX0_run 129 = .ok (.iadd, 1) := by decide +kernel
theorem dX0_run_130 : decode cX0_run 130 = .ok (.ireturn, 1) := by decide +kernel
theorem dX0_run_131 : decode cX0_run 131 = .ok (.aload_n 0, 1) := by decide +kernel
theorem dX0_run_132 : decode cX0_run 132 = .ok (.aload_n 0, 1) := by decide +kernel
theorem dX0_run_133 : decode cX0_run 133 = .ok (.getfield 19, 3) := by decide +kernel
theorem dX0_run_136 : decode cX0_run 136 = .ok (.iconst 0, 1) := by decide +kernel
theorem dX0_run_137 : decode cX0_run 137 = .ok (.iload_n 3, 1) := by decide +kernel
theorem dX0_run_138 : decode cX0_run 138 = .ok (.iload 4, 2) := by decide +kernel
theorem dX0_run_140 : decode cX0_run 140 = .ok (.invokevirtual 34, 3) := by decide +kernel
theorem dX0_run_143 : decode cX0_run 143 = .ok (.aload_n 0, 1) := by decide +kernel
theorem dX0_run_144 : decode cX0_run 144 = .ok (.getfield 25, 3) := by decide +kernel
theorem dX0_run_147 : decode cX0_run 147 = .ok (.isub, 1) := by decide +kernel
theorem dX0_run_148 : decode cX0_run 148 = .ok (.ireturn, 1) := by decide +kernel
theorem dX0_run_149 : decode cX0_run 149 = .ok (.aload_n 0, 1) := by decide +kernel
theorem dX0_run_150 : decode cX0_run 150 = .ok (.aload_n 0, 1) := by decide +kernel
theorem dX0_run_151 : decode cX0_run 151 = .ok (.getfield 19, 3) := by decide +kernel
theorem dX0_run_154 : decode cX0_run 154 = .ok (.iconst 1, 1) := by decide +kernel
theorem dX0_run_155 : decode cX0_run 155 = .ok (.iload_n 3, 1) := by decide +kernel
theorem dX0_run_156 : decode cX0_run 156 = .ok (.iload 4, 2) := by decide +kernel
theorem dX0_run_158 : decode cX0_run 158 = .ok (.invokevirtual 34, 3) := by decide +kernel
theorem dX0_run_161 : decode cX0_run 161 = .ok (.iconst 2, 1) := by decide +kernel
theorem dX0_run_162 : decode cX0_run 162 = .ok (.imul, 1) := by decide +kernel
theorem dX0_run_163 : decode cX0_run 163 = .ok (.ireturn, 1) := by decide +kernel
theorem dX0_run_164 : decode cX0_run 164 = .ok (.aload_n 0, 1) := by decide +kernel
theorem dX0_run_165 : decode cX0_run 165 = .ok (.iload_n 2, 1) := by decide +kernel
theorem dX0_run_166 : decode cX0_run 166 = .ok (.iconst 0, 1) := by decide +kernel
theorem dX0_run_167 : decode cX0_run 167 = .ok (.iload_n 3, 1) := by decide +kernel
theorem dX0_run_168 : decode cX0_run 168 = .ok (.iconst 3, 1) := by decide +kernel
theorem dX0_run_169 : decode cX0_run 169 = .ok (.imul, 1) := by decide +kernel
theorem dX0_run_170 : decode cX0_run 170 = .ok (.iload 4, 2) := by decide +kernel
theorem dX0_run_172 : decode cX0_run 172 = .ok (.invokevirtual 34, 3) := by decide +kernel
theorem dX0_run_175 : decode cX0_run 175 = .ok (.ireturn, 1) := by decide +kernel
theorem dX0_run_176 : decode cX0_run 176 = .ok (.aload_n 0, 1) := by decide +kernel
theorem dX0_run_177 : decode cX0_run 177 = .ok (.iload_n 2, 1) := by decide +kernel
theorem dX0_run_178 : decode cX0_run 178 = .ok (.iconst 1, 1) := by decide +kernel
theorem dX0_run_179 : decode cX0_run 179 = .ok (.iload_n 3, 1) := by decide +kernel
theorem dX0_run_180 : decode cX0_run 180 = .ok (.iload 4, 2) := by decide +kernel
theorem dX0_run_182 : decode cX0_run 182 = .ok (.invokevirtual 34, 3) := by decide +kernel
theorem dX0_run_185 : decode cX0_run 185 = .ok (.ineg, 1) := by decide +kernel
theorem dX0_run_186 : decode cX0_run 186 = .ok (.ireturn, 1) := by decide +kernel
theorem dX0_run_187 : decode cX0_run 187 = .ok (.aload_n 0, 1) := by decide +kernel
theorem dX0_run_188 : decode cX0_run 188 = .ok (.iload_n 2, 1) := by decide +kernel
theorem dX0_run_189 : decode cX0_run 189 = .ok (.iconst 2, 1) := by decide +kernel
theorem dX0_run_190 : decode cX0_run 190 = .ok (.iload_n 3, 1) := by decide +kernel
theorem dX0_run_191 : decode cX0_run 191 = .ok (.iload 4, 2) := by decide +kernel
theorem dX0_run_193 : decode cX0_run 193 = .ok (.invokevirtual 34, 3) := by decide +kernel
theorem dX0_run_196 : decode cX0_run 196 = .ok (.bipush 7, 2) := by decide +kernel
theorem dX0_run_198 : decode cX0_run 198 = .ok (.ixor, 1) := by decide +kernel
theorem dX0_run_199 : decode cX0_run 199 = .ok (.ireturn, 1) := by decide +kernel
theorem dX0_run_200 : decode cX0_run 200 = .ok (.aload_n 0, 1) := by decide +kernel
theorem dX0_run_201 : decode cX0_run 201 = .ok (.iload_n 2, 1) := by decide +kernel
theorem dX0_run_202 : decode cX0_run 202 = .ok (.iconst 2, 1) := by decide +kernel
theorem dX0_run_203 : decode cX0_run 203 = .ok (.iload_n 3, 1) := by decide +kernel
theorem dX0_run_204 : decode cX0_run 204 = .ok (.iconst 1, 1) := by decide +kernel
theorem dX0_run_205 : decode cX0_run 205 = .ok (.isub, 1) := by decide +kernel
theorem dX0_run_206 : decode cX0_run 206 = .ok (.iload 4, 2) := by decide +kernel
theorem dX0_run_208 : decode cX0_run 208 = .ok (.invokevirtual 34, 3) := by decide +kernel
theorem dX0_run_211 : decode cX0_run 211 = .ok (.aload_n 0, 1) := by decide +kernel
theorem dX0_run_212 : decode cX0_run 212 = .ok (.aload_n 0, 1) := by decide +kernel
theorem dX0_run_213 : decode cX0_run 213 = .ok (.getfield 19, 3) := by decide +kernel
theorem dX0_run_216 : decode cX0_run 216 = .ok (.iconst 0, 1) := by decide +kernel
theorem dX0_run_217 : decode cX0_run 217 = .ok (.iconst 2, 1) := by decide +kernel
theorem dX0_run_218 : decode cX0_run 218 = .ok (.iload 4, 2) := by decide +kernel
theorem dX0_run_220 : decode cX0_run 220 = .ok (.invokevirtual 34, 3) := by decide +kernel
theorem dX0_run_223 : decode cX0_run 223 = .ok (.iadd, 1) := by decide +kernel
theorem dX0_run_224 : decode cX0_run 224 = .ok (.ireturn, 1) := by decide +kernel
theorem dX0_run_225 : decode cX0_run 225 = .ok (.aload_n 0, 1) := by decide +kernel
theorem dX0_run_226 : decode cX0_run 226 = .ok (.iload_n 2, 1) := by decide +kernel
theorem dX0_run_227 : decode cX0_run 227 = .ok (.iconst 0, 1) := by decide +kernel
theorem dX0_run_228 : decode cX0_run 228 = .ok (.iload_n 3, 1) := by decide +kernel
theorem dX0_run_229 : decode cX0_run 229 = .ok (.iload 4, 2) := by decide +kernel
theorem dX0_run_231 : decode cX0_run 231 = .ok (.invokevirtual 34, 3) := by decide +kernel
theorem dX0_run_234 : decode cX0_run 234 = .ok (.aload_n 0, 1) := by decide +kernel
theorem dX0_run_235 : decode cX0_run 235 = .ok (.getfield 22, 3) := by decide +kernel
theorem dX0_run_238 : decode cX0_run 238 = .ok (.ixor, 1) := by decide +kernel
theorem dX0_run_239 : decode cX0_run 239 = .ok (.ireturn, 1) := by decide +kernel
theorem dX0_run_240 : decode cX0_run 240 = .ok (.aload_n 0, 1) := by decide +kernel
theorem dX0_run_241 : decode cX0_run 241 = .ok (.iload_n 2, 1) := by decide +kernel
theorem dX0_run_242 : decode cX0_run 242 = .ok (.iconst 1, 1) := by decide +kernel
theorem dX0_run_243 : decode cX0_run 243 = .ok (.iload_n 3, 1) := by decide +kernel
theorem dX0_run_244 : decode cX0_run 244 = .ok (.iload 4, 2) := by decide +kernel
theorem dX0_run_246 : decode cX0_run 246 = .ok (.invokevirtual 34, 3) := by decide +kernel
theorem dX0_run_249 : decode cX0_run 249 = .ok (.aload_n 0, 1) := by decide +kernel
theorem dX0_run_250 : decode cX0_run 250 = .ok (.getfield 25, 3) := by decide +kernel
theorem dX0_run_253 : decode cX0_run 253 = .ok (.iadd, 1) := by decide +kernel
theorem dX0_run_254 : decode cX0_run 254 = .ok (.ireturn, 1) := by decide +kernel
theorem dX0_run_255 : decode cX0_run 255 = .ok (.iconst 0, 1) := by decide +kernel
theorem dX0_run_256 : decode cX0_run 256 = .ok (.ireturn, 1) := by decide +kernel
theorem dX1_init_0 : decode cX1_init 0 = .ok (.aload_n 0, 1) := by decide +kernel
theorem dX1_init_1 : decode cX1_init 1 = .ok (.invokespecial 3, 3) := by decide +kernel
theorem dX1_init_4 : decode cX1_init 4 = .ok (.aload_n 0, 1) := by decide +kernel
theorem dX1_init_5 : decode cX1_init 5 = .ok (.iconst 3, 1) := by decide +kernel
theorem dX1_init_6 : decode cX1_init 6 = .ok (.newarray .long, 2) := by decide +kernel
theorem dX1_init_8 : decode cX1_init 8 = .ok (.putfield 9, 3) := by decide +kernel
theorem dX1_init_11 : decode cX1_init 11 = .ok (.aload_n 0, 1) := by decide +kernel
theorem dX1_init_12 : decode cX1_init 12 = .ok (.new 15, 3) := by decide +kernel
theorem dX1_init_15 : decode cX1_init 15 = .ok (.dup, 1) := by decide +kernel
theorem dX1_init_16 : decode cX1_init 16 = .ok (.invokespecial 17, 3) := by decide +kernel
theorem dX1_init_19 : decode cX1_init 19 = .ok (.putfield 18, 3) := by decide +kernel
theorem dX1_init_22 : decode cX1_init 22 = .ok (.aload_n 0, 1) := by decide +kernel
theorem dX1_init_23 : decode cX1_init 23 = .ok (.new 22, 3) := by decide +kernel
theorem dX1_init_26 : decode cX1_init 26 = .ok (.dup, 1) := by decide +kernel
theorem dX1_init_27 : decode cX1_init 27 = .ok (.invokespecial 24, 3) := by decide +kernel
theorem dX1_init_30 : decode cX1_init 30 = .ok (.putfield 25, 3) := by decide +kernel
theorem dX1_init_33 : decode cX1_init 33 = .ok (.aload_n 0, 1) := by decide +kernel
theorem dX1_init_34 : decode cX1_init 34 = .ok (.new 29, 3) := by decide +kernel
theorem dX1_init_37 : decode cX1_init 37 = .ok (.dup, 1) := by decide +kernel
theorem dX1_init_38 : decode cX1_init 38 = .ok (.invokespecial 31, 3) := by decide +kernel
theorem dX1_init_41 : decode cX1_init 41 = .ok (.putfield 32, 3) := by decide +kernel
theorem dX1_init_44 : decode cX1_init 44 = .ok (.aload_n 0, 1) := by decide +kernel
theorem dX1_init_45 : decode cX1_init 45 = .ok (.new 36, 3) := by decide +kernel
theorem dX1_init_48 : decode cX1_init 48 = .ok (.dup, 1) := by decide +kernel
theorem dX1_init_49 : decode cX1_init 49 = .ok (.invokespecial 38, 3) := by decide +kernel
theorem dX1_init_52 : decode cX1_init 52 = .ok (.putfield 39, 3) := by decide +kernel
theorem dX1_init_55 : decode cX1_init 55 = .ok (.aload_n 0, 1) := by decide +kernel
theorem dX1_init_56 : decode cX1_init 56 = .ok (.iconst 0, 1) := by decide +kernel
theorem dX1_init_57 : decode cX1_init 57 = .ok (.putfield 43, 3) := by decide +kernel
theorem dX1_init_60 : decode cX1_init 60 = .ok (.return_, 1) := by decide +kernel
theorem dX1_copy_0 : decode cX1_copy 0 = .ok (.aload_n 1, 1) := by decide +kernel
theorem dX1_copy_1 : decode cX1_copy 1 = .ok (.getfield 9, 3) := by decide +kernel
theorem dX1_copy_4 : decode cX1_copy 4 = .ok (.iconst 0, 1) := by decide +kernel
theorem dX1_copy_5 : decode cX1_copy 5 = .ok (.aload_n 0, 1) := by decide +kernel
theorem dX1_copy_6 : decode cX1_copy 6 = .ok (.getfield 9, 3) := by decide +kernel
theorem dX1_copy_9 : decode cX1_copy 9 = .ok (.iconst 0, 1) := by decide +kernel
theorem dX1_copy_10 : decode cX1_copy 10 = .ok (.iconst 3, 1) := by decide +kernel
theorem dX1_copy_11 : decode cX1_copy 11 = .ok (.invokestatic 47, 3) := by decide +kernel
theorem dX1_copy_14 : decode cX1_copy 14 = .ok (.aload_n 0, 1) := by decide +kernel
theorem dX1_copy_15 : decode cX1_copy 15 = .ok (.getfield 18, 3) := by decide +kernel
theorem dX1_copy_18 : decode cX1_copy 18 = .ok (.aload_n 1, 1) := by decide +kernel
theorem dX1_copy_19 : decode cX1_copy 19 = .ok (.getfield 18, 3) := by decide +kernel
theorem dX1_copy_22 : decode cX1_copy 22 = .ok (.invokevirtual 53, 3) := by decide +kernel
theorem dX1_copy_25 : decode cX1_copy 25 = .ok (.aload_n 0, 1) := by decide +kernel
theorem dX1_copy_26 : decode cX1_copy 26 = .ok (.getfield 25, 3) := by decide +kernel
theorem dX1_copy_29 : decode cX1_copy 29 = .ok (.aload_n 1, 1) := by decide +kernel
theorem dX1_copy_30 : decode cX1_copy 30 = .ok (.getfield 25, 3) := by decide +kernel
theorem dX1_copy_33 : decode cX1_copy 33 = .ok (.invokevirtual 57, 3) := by decide +kernel
theorem dX1_copy_36 : decode cX1_copy 36 = .ok (.aload_n 0, 1) := by decide +kernel
theorem dX1_copy_37 : decode cX1_copy 37 = .ok (.getfield 32, 3) := by decide +kernel
theorem dX1_copy_40 : decode cX1_copy 40 = .ok (.aload_n 1, 1) := by decide +kernel
theorem dX1_copy_41 : decode cX1_copy 41 = .ok (.getfield 32, 3) := by decide +kernel
theorem dX1_copy_44 : decode cX1_copy 44 = .ok (.invokevirtual 60, 3) := by decide +kernel
theorem dX1_copy_47 : decode cX1_copy 47 = .ok (.aload_n 0, 1) := by decide +kernel
theorem dX1_copy_48 : decode cX1_copy 48 = .ok (.getfield 39, 3) := by decide +kernel
theorem dX1_copy_51 : decode cX1_copy 51 = .ok (.aload_n 1, 1) := by decide +kernel
theorem dX1_copy_52 : decode cX1_copy 52 = .ok (.getfield 39, 3) := by decide +kernel
theorem dX1_copy_55 : decode cX1_copy 55 = .ok (.invokevirtual 63, 3) := by decide +kernel
theorem dX1_copy_58 : decode cX1_copy 58 = .ok (.aload_n 0, 1) := by decide +kernel
theorem dX1_copy_59 : decode cX1_copy 59 = .ok (.aload_n 1, 1) := by decide +kernel
theorem dX1_copy_60 : decode cX1_copy 60 = .ok (.getfield 43, 3) := by decide +kernel
theorem dX1_copy_63 : decode cX1_copy 63 = .ok (.putfield 43, 3) := by decide +kernel
theorem dX1_copy_66 : decode cX1_copy 66 = .ok (.return_, 1) := by decide +kernel
theorem dX2_init_0 : decode cX2_init 0 = .ok (.aload_n 0, 1) := by decide +kernel
theorem dX2_init_1 : decode cX2_init 1 = .ok (.invokespecial 3, 3) := by decide +kernel
theorem dX2_init_4 : decode cX2_init 4 = .ok (.aload_n 0, 1) := by decide +kernel
theorem dX2_init_5 : decode cX2_init 5 = .ok (.iconst 5, 1) := by decide +kernel
theorem dX2_init_6 : decode cX2_init 6 = .ok (.newarray .int, 2) := by decide +kernel
theorem dX2_init_8 : decode cX2_init 8 = .ok (.putfield 9, 3) := by decide +kernel
theorem dX2_init_11 : decode cX2_init 11 = .ok (.aload_n 0, 1) := by decide +kernel
theorem dX2_init_12 : decode cX2_init 12 = .ok (.bipush 120, 2) := by decide +kernel
theorem dX2_init_14 : decode cX2_init 14 = .ok (.newarray .int, 2) := by decide +kernel
theorem dX2_init_16 : decode cX2_init 16 = .ok (.putfield 15, 3) := by decide +kernel
theorem dX2_init_19 : decode cX2_init 19 = .ok (.aload_n 0, 1) := by decide +kernel
theorem dX2_init_20 : decode cX2_init 20 = .ok (.bipush 10, 2) := by decide +kernel
theorem dX2_init_22 : decode cX2_init 22 = .ok (.newarray .boolean, 2) := by decide +kernel
theorem dX2_init_24 : decode cX2_init 24 = .ok (.putfield 18, 3) := by decide +kernel
theorem dX2_init_27 : decode cX2_init 27 = .ok (.aload_n 0, 1) := by decide +kernel
theorem dX2_init_28 : decode cX2_init 28 = .ok (.bipush 10, 2) := by decide +kernel
theorem dX2_init_30 : decode cX2_init 30 = .ok (.newarray .int, 2) := by decide +kernel
theorem dX2_init_32 : decode cX2_init 32 = .ok (.putfield 22, 3) := by decide +kernel
theorem dX2_init_35 : decode cX2_init 35 = .ok (.aload_n 0, 1) := by decide +kernel
theorem dX2_init_36 : decode cX2_init 36 = .ok (.bipush 10, 2) := by decide +kernel
theorem dX2_init_38 : decode cX2_init 38 = .ok (.newarray .int, 2) := by decide +kernel
theorem dX2_init_40 : decode cX2_init 40 = .ok (.putfield 25, 3) := by decide +kernel
theorem dX2_init_43 : decode cX2_init 43 = .ok (.aload_n 0, 1) := by decide +kernel
theorem dX2_init_44 : decode cX2_init 44 = .ok (.iconst 0, 1) := by decide +kernel
theorem dX2_init_45 : decode cX2_init 45 = .ok (.putfield 28, 3) := by decide +kernel
theorem dX2_init_48 : decode cX2_init 48 = .ok (.aload_n 0, 1) := by decide +kernel
theorem dX2_init_49 : decode cX2_init 49 = .ok (.iconst 0, 1) := by decide +kernel
theorem dX2_init_50 : decode cX2_init 50 = .ok (.putfield 32, 3) := by decide +kernel
theorem dX2_init_53 : decode cX2_init 53 = .ok (.aload_n 0, 1) := by decide +kernel
theorem dX2_init_54 : decode cX2_init 54 = .ok (.invokevirtual 35, 3) := by decide +kernel
theorem dX2_init_57 : decode cX2_init 57 = .ok (.return_, 1) := by decide +kernel
theorem dX2_empty_0 : decode cX2_empty 0 = .ok (.getstatic 38, 3) := by decide +kernel
theorem dX2_empty_3 : decode cX2_empty 3 = .ok (.iconst 0, 1) := by decide +kernel
theorem dX2_empty_4 : decode cX2_empty 4 = .ok (.aload_n 0, 1) := by decide +kernel
theorem dX2_empty_5 : decode cX2_empty 5 = .ok (.getfield 9, 3) := by decide +kernel
theorem dX2_empty_8 : decode cX2_empty 8 = .ok (.iconst 0, 1) := by decide +kernel
theorem dX2_empty_9 : decode cX2_empty 9 = .ok (.iconst 5, 1) := by decide +kernel
theorem dX2_empty_10 : decode cX2_empty 10 = .ok (.invokestatic 41, 3) := by decide +kernel
theorem dX2_empty_13 : decode cX2_empty 13 = .ok (.aload_n 0, 1) := by decide +kernel
theorem dX2_empty_14 : decode cX2_empty 14 = .ok (.iconst 0, 1) := by decide +kernel
theorem dX2_empty_15 : decode cX2_empty 15 = .ok (.putfield 28, 3) := by decide +kernel
theorem dX2_empty_18 : decode cX2_empty 18 = .ok (.aload_n 0, 1) := by decide +kernel
theorem dX2_empty_19 : decode cX2_empty 19 = .ok (.iconst 0, 1) := by decide +kernel
theorem dX2_empty_20 : decode cX2_empty 20 = .ok (.putfield 32, 3) := by decide +kernel
theorem dX2_empty_23 : decode cX2_empty 23 = .ok (.return_, 1) := by decide +kernel
theorem dX2_put_0 : decode cX2_put 0 = .ok (.aload_n 0, 1) := by decide +kernel
theorem dX2_put_1 : decode cX2_put 1 = .ok (.getfield 32, 3) := by decide +kernel
theorem dX2_put_4 : decode cX2_put 4 = .ok (.ifCond .lt 15, 3) := by decide +kernel
theorem dX2_put_7 : decode cX2_put 7 = .ok (.aload_n 0, 1) := by decide +kernel
theorem dX2_put_8 : decode cX2_put 8 = .ok (.getfield 32, 3) := by decide +kernel
theorem dX2_put_11 : decode cX2_put 11 = .ok (.aload_n 0, 1) := by decide +kernel
theorem dX2_put_12 : decode cX2_put 12 = .ok (.getfield 15, 3) := by decide +kernel
theorem dX2_put_15 : decode cX2_put 15 = .ok (.arraylength, 1) := by decide +kernel
theorem dX2_put_16 : decode cX2_put 16 = .ok (.if_icmp .lt 4, 3) := by decide +kernel
theorem dX2_put_19 : decode cX2_put 19 = .ok (.return_, 1) := by decide +kernel
theorem dX2_put_20 : decode cX2_put 20 = .ok (.aload_n 0, 1) := by decide +kernel
theorem dX2_put_21 : decode cX2_put 21 = .ok (.getfield 15, 3) := by decide +kernel
theorem dX2_put_24 : decode cX2_put 24 = .ok (.aload_n 0, 1) := by decide +kernel
theorem dX2_put_25 : decode cX2_put 25 = .ok (.getfield 32, 3) := by decide +kernel
theorem dX2_put_28 : decode cX2_put 28 = .ok (.iload_n 1, 1) := by decide +kernel
theorem dX2_put_29 : decode cX2_put 29 = .ok (.iastore, 1) := by decide +kernel
theorem dX2_put_30 : decode cX2_put 30 = .ok (.aload_n 0, 1) := by decide +kernel
theorem dX2_put_31 : decode cX2_put 31 = .ok (.dup, 1) := by decide +kernel
theorem dX2_put_32 : decode cX2_put 32 = .ok (.getfield 32, 3) := by decide +kernel
theorem dX2_put_35 : decode cX2_put 35 = .ok (.iconst 1, 1) := by decide +kernel
theorem dX2_put_36 : decode cX2_put 36 = .ok (.iadd, 1) := by decide +kernel
theorem dX2_put_37 : decode cX2_put 37 = .ok (.putfield 32, 3) := by decide +kernel
theorem dX2_put_40 : decode cX2_put 40 = .ok (.return_, 1) := by decide +kernel
theorem dX2_close_0 : decode cX2_close 0 = .ok (.aload_n 0, 1) := by decide +kernel
theorem dX2_close_1 : decode cX2_close 1 = .ok (.getfield 28, 3) := by decide +kernel
theorem dX2_close_4 : decode cX2_close 4 = .ok (.ifCond .lt 12, 3) := by decide +kernel
theorem dX2_close_7 : decode cX2_close 7 = .ok (.aload_n 0, 1) := by decide +kernel
theorem dX2_close_8 : decode cX2_close 8 = .ok (.getfield 28, 3) := by decide +kernel
theorem dX2_close_11 : decode cX2_close 11 = .ok (.bipush 10, 2) := by decide +kernel
theorem dX2_close_13 : decode cX2_close 13 = .ok (.if_icmp .lt 4, 3) := by decide +kernel
theorem dX2_close_16 : decode cX2_close 16 = .ok (.return_, 1) := by decide +kernel
theorem dX2_close_17 : decode cX2_close 17 = .ok (.aload_n 0, 1) := by decide +kernel
theorem dX2_close_18 : decode cX2_close 18 = .ok (.getfield 18, 3) := by decide +kernel
theorem dX2_close_21 : decode cX2_close 21 = .ok (.aload_n 0, 1) := by decide +kernel
theorem dX2_close_22 : decode cX2_close 22 = .ok (.getfield 28, 3) := by decide +kernel
theorem dX2_close_25 : decode cX2_close 25 = .ok (.iload_n 1, 1) := by decide +kernel
theorem dX2_close_26 : decode cX2_close 26 = .ok (.bastore, 1) := by decide +kernel
theorem dX2_close_27 : decode cX2_close 27 = .ok (.aload_n 0, 1) := by decide +kernel
theorem dX2_close_28 : decode cX2_close 28 = .ok (.getfield 22, 3) := by decide +kernel
theorem dX2_close_31 : decode cX2_close 31 = .ok (.aload_n 0, 1) := by decide +kernel
theorem dX2_close_32 : decode cX2_close 32 = .ok (.getfield 28, 3) := by decide +kernel
theorem dX2_close_35 : decode cX2_close 35 = .ok (.iload_n 2, 1) := by decide +kernel
theorem dX2_close_36 : decode cX2_close 36 = .ok (.iastore, 1) := by decide +kernel
theorem dX2_close_37 : decode cX2_close 37 = .ok (.aload_n 0, 1) := by decide +kernel
theorem dX2_close_38 : decode cX2_close 38 = .ok (.getfield 25, 3) := by decide +kernel
theorem dX2_close_41 : decode cX2_close 41 = .ok (.aload_n 0, 1) := by decide +kernel
theorem dX2_close_42 : decode cX2_close 42 = .ok (.getfield 28, 3) := by decide +kernel
theorem dX2_close_45 : decode cX2_close 45 = .ok (.aload_n 0, 1) := by decide +kernel
theorem dX2_close_46 : decode cX2_close 46 = .ok (.getfield 32, 3) := by decide +kernel
theorem dX2_close_49 : decode cX2_close 49 = .ok (.iastore, 1) := by decide +kernel
theorem dX2_close_50 : decode cX2_close 50 = .ok (.aload_n 0, 1) := by decide +kernel
theorem dX2_close_51 : decode cX2_close 51 = .ok (.dup, 1) := by decide +kernel
theorem dX2_close_52 : decode cX2_close 52 = .ok (.getfield 28, 3) := by decide +kernel
theorem dX2_close_55 : decode cX2_close 55 = .ok (.iconst 1, 1) := by decide +kernel
theorem dX2_close_56 : decode cX2_close 56 = .ok (.iadd, 1) := by decide +kernel
theorem dX2_close_57 : decode cX2_close 57 = .ok (.putfield 28, 3) := by decide +kernel
theorem dX2_close_60 : decode cX2_close 60 = .ok (.return_, 1) := by decide +kernel
theorem dX2_copy_0 : decode cX2_copy 0 = .ok (.aload_n 1, 1) := by decide +kernel
theorem dX2_copy_1 : decode cX2_copy 1 = .ok (.getfield 9, 3) := by decide +kernel
theorem dX2_copy_4 : decode cX2_copy 4 = .ok (.iconst 0, 1) := by decide +kernel
theorem dX2_copy_5 : decode cX2_copy 5 = .ok (.aload_n 0, 1) := by decide +kernel
theorem dX2_copy_6 : decode cX2_copy 6 = .ok (.getfield 9, 3) := by decide +kernel
theorem dX2_copy_9 : decode cX2_copy 9 = .ok (.iconst 0, 1) := by decide +kernel
theorem dX2_copy_10 : decode cX2_copy 10 = .ok (.iconst 5, 1) := by decide +kernel
theorem dX2_copy_11 : decode cX2_copy 11 = .ok (.invokestatic 41, 3) := by decide +kernel
theorem dX2_copy_14 : decode cX2_copy 14 = .ok (.aload_n 1, 1) := by decide +kernel
theorem dX2_copy_15 : decode cX2_copy 15 = .ok (.getfield 15, 3) := by decide +kernel
theorem dX2_copy_18 : decode cX2_copy 18 = .ok (.iconst 0, 1) := by decide +kernel
theorem dX2_copy_19 : decode cX2_copy 19 = .ok (.aload_n 0, 1) := by decide +kernel
theorem dX2_copy_20 : decode cX2_copy 20 = .ok (.getfield 15, 3) := by decide +kernel
theorem dX2_copy_23 : decode cX2_copy 23 = .ok (.iconst 0, 1) := by decide +kernel
theorem dX2_copy_24 : decode cX2_copy 24 = .ok (.bipush 120, 2) := by decide +kernel
theorem dX2_copy_26 : decode cX2_copy 26 = .ok (.invokestatic 41, 3) := by decide +kernel
theorem dX2_copy_29 : decode cX2_copy 29 = .ok (.aload_n 1, 1) := by decide +kernel
theorem dX2_copy_30 : decode cX2_copy 30 = .ok (.getfield 18, 3) := by decide +kernel
theorem dX2_copy_33 : decode cX2_copy 33 = .ok (.iconst 0, 1) := by decide +kernel
theorem dX2_copy_34 : decode cX2_copy 34 = .ok (.aload_n 0, 1) := by decide +kernel
theorem dX2_copy_35 : decode cX2_copy 35 = .ok (.getfield 18, 3) := by decide +kernel
theorem dX2_copy_38 : decode cX2_copy 38 = .ok (.iconst 0, 1) := by decide +kernel
theorem dX2_copy_39 : decode cX2_copy 39 = .ok (.bipush 10, 2) := by decide +kernel
theorem dX2_copy_41 : decode cX2_copy 41 = .ok (.invokestatic 41, 3) := by decide +kernel
theorem dX2_copy_44 : decode cX2_copy 44 = .ok (.aload_n 1, 1) := by decide +kernel
theorem dX2_copy_45 : decode cX2_copy 45 = .ok (.getfield 22, 3) := by decide +kernel
theorem dX2_copy_48 : decode cX2_copy 48 = .ok (.iconst 0, 1) := by decide +kernel
theorem dX2_copy_49 : decode cX2_copy 49 = .ok (.aload_n 0, 1) := by decide +kernel
theorem dX2_copy_50 : decode cX2_copy 50 = .ok (.getfield 22, 3) := by decide +kernel
theorem dX2_copy_53 : decode cX2_copy 53 = .ok (.iconst 0, 1) := by decide +kernel
theorem dX2_copy_54 : decode cX2_copy 54 = .ok (.bipush 10, 2) := by decide +kernel
theorem dX2_copy_56 : decode cX2_copy 56 = .ok (.invokestatic 41, 3) := by decide +kernel
theorem dX2_copy_59 : decode cX2_copy 59 = .ok (.aload_n 1, 1) := by decide +kernel
theorem dX2_copy_60 : decode cX2_copy 60 = .ok (.getfield 25, 3) := by decide +kernel
theorem dX2_copy_63 : decode cX2_copy 63 = .ok (.iconst 0, 1) := by decide +kernel
theorem dX2_copy_64 : decode cX2_copy 64 = .ok (.aload_n 0, 1) := by decide +kernel
theorem dX2_copy_65 : decode cX2_copy 65 = .ok (.getfield 25, 3) := by decide +kernel
theorem dX2_copy_68 : decode cX2_copy 68 = .ok (.iconst 0, 1) := by decide +kernel
theorem dX2_copy_69 : decode cX2_copy 69 = .ok (.bipush 10, 2) := by decide +kernel
theorem dX2_copy_71 : decode cX2_copy 71 = .ok (.invokestatic 41, 3) := by decide +kernel
theorem dX2_copy_74 : decode cX2_copy 74 = .ok (.aload_n 0, 1) := by decide +kernel
theorem dX2_copy_75 : decode cX2_copy 75 = .ok (.aload_n 1, 1) := by decide +kernel
theorem dX2_copy_76 : decode cX2_copy 76 = .ok (.getfield 28, 3) := by decide +kernel
theorem dX2_copy_79 : decode cX2_copy 79 = .ok (.putfield 28, 3) := by decide +kernel
theorem dX2_copy_82 : decode cX2_copy 82 = .ok (.aload_n 0, 1) := by decide +kernel
theorem dX2_copy_83 : decode cX2_copy 83 = .ok (.aload_n 1, 1) := by decide +kernel
theorem dX2_copy_84 : decode cX2_copy 84 = .ok (.getfield 32, 3) := by decide +kernel
theorem dX2_copy_87 : decode cX2_copy 87 = .ok (.putfield 32, 3) := by decide +kernel
theorem dX2_copy_90 : decode cX2_copy 90 = .ok (.return_, 1) := by decide +kernel
theorem dX3_init_0 : decode cX3_init 0 = .ok (.aload_n 0, 1) := by decide +kernel
theorem dX3_init_1 : decode cX3_init 1 = .ok (.invokespecial 3, 3) := by decide +kernel
theorem dX3_init_4 : decode cX3_init 4 = .ok (.aload_n 0, 1) := by decide +kernel
theorem dX3_init_5 : decode cX3_init 5 = .ok (.bipush 10, 2) := by decide +kernel
theorem dX3_init_7 : decode cX3_init 7 = .ok (.newarray .int, 2) := by decide +kernel
theorem dX3_init_9 : decode cX3_init 9 = .ok (.putfield 9, 3) := by decide +kernel
theorem dX3_init_12 : decode cX3_init 12 = .ok (.aload_n 0, 1) := by decide +kernel
theorem dX3_init_13 : decode cX3_init 13 = .ok (.bipush 10, 2) := by decide +kernel
theorem dX3_init_15 : decode cX3_init 15 = .ok (.newarray .int, 2) := by decide +kernel
theorem dX3_init_17 : decode cX3_init 17 = .ok (.putfield 15, 3) := by decide +kernel
theorem dX3_init_20 : decode cX3_init 20 = .ok (.aload_n 0, 1) := by decide +kernel
theorem dX3_init_21 : decode cX3_init 21 = .ok (.bipush 10, 2) := by decide +kernel
theorem dX3_init_23 : decode cX3_init 23 = .ok (.newarray .int, 2) := by decide +kernel
theorem dX3_init_25 : decode cX3_init 25 = .ok (.putfield 18, 3) := by decide +kernel
theorem dX3_init_28 : decode cX3_init 28 = .ok (.aload_n 0, 1) := by decide +kernel
theorem dX3_init_29 : decode cX3_init 29 = .ok (.bipush 10, 2) := by decide +kernel
theorem dX3_init_31 : decode cX3_init 31 = .ok (.newarray .int, 2) := by decide +kernel
theorem dX3_init_33 : decode cX3_init 33 = .ok (.putfield 21, 3) := by decide +kernel
theorem dX3_init_36 : decode cX3_init 36 = .ok (.aload_n 0, 1) := by decide +kernel
theorem dX3_init_37 : decode cX3_init 37 = .ok (.iconst 0, 1) := by decide +kernel
theorem dX3_init_38 : decode cX3_init 38 = .ok (.putfield 24, 3) := by decide +kernel
theorem dX3_init_41 : decode cX3_init 41 = .ok (.aload_n 0, 1) := by decide +kernel
theorem dX3_init_42 : decode cX3_init 42 = .ok (.iconst 0, 1) := by decide +kernel
theorem dX3_init_43 : decode cX3_init 43 = .ok (.putfield 28, 3) := by decide +kernel
theorem dX3_init_46 : decode cX3_init 46 = .ok (.return_, 1) := by decide +kernel
theorem dX3_has_0 : decode cX3_has 0 = .ok (.iload_n 1, 1) := by decide +kernel
theorem dX3_has_1 : decode cX3_has 1 = .ok (.ifCond .lt 15, 3) := by decide +kernel
theorem dX3_has_4 : decode cX3_has 4 = .ok (.iload_n 1, 1) := by decide +kernel
theorem dX3_has_5 : decode cX3_has 5 = .ok (.aload_n 0, 1) := by decide +kernel
theorem dX3_has_6 : decode cX3_has 6 = .ok (.getfield 28, 3) := by decide +kernel
theorem dX3_has_9 : decode cX3_has 9 = .ok (.if_icmp .ge 7, 3) := by decide +kernel
theorem dX3_has_12 : decode cX3_has 12 = .ok (.iconst 1, 1) := by decide +kernel
theorem dX3_has_13 : decode cX3_has 13 = .ok (.goto 4, 3) := by decide +kernel
theorem dX3_has_16 : decode cX3_has 16 = .ok (.iconst 0, 1) := by decide +kernel
theorem dX3_has_17 : decode cX3_has 17 = .ok (.ireturn, 1) := by decide +kernel
theorem dX3_isLoose_0 : decode cX3_isLoose 0 = .ok (.aload_n 0, 1) := by decide +kernel
theorem dX3_isLoose_1 : decode cX3_isLoose 1 = .ok (.getfield 24, 3) := by decide +kernel
theorem dX3_isLoose_4 : decode cX3_isLoose 4 = .ok (.iload_n 1, 1) := by decide +kernel
theorem dX3_isLoose_5 : decode cX3_isLoose 5 = .ok (.ishr, 1) := by decide +kernel
theorem dX3_isLoose_6 : decode cX3_isLoose 6 = .ok (.iconst 1, 1) := by decide +kernel
theorem dX3_isLoose_7 : decode cX3_isLoose 7 = .ok (.iand, 1) := by decide +kernel
theorem dX3_isLoose_8 : decode cX3_isLoose 8 = .ok (.ifCond .ne 7, 3) := by decide +kernel
theorem dX3_isLoose_11 : decode cX3_isLoose 11 = .ok (.iconst 1, 1) := by decide +kernel
theorem dX3_isLoose_12 : decode cX3_isLoose 12 = .ok (.goto 4, 3) := by decide +kernel
theorem dX3_isLoose_15 : decode cX3_isLoose 15 = .ok (.iconst 0, 1) := by decide +kernel
theorem dX3_isLoose_16 : decode cX3_isLoose 16 = .ok (.ireturn, 1) := by decide +kernel
theorem dX3_loose_0 : decode cX3_loose 0 = .ok (.iconst 1, 1) := by decide +kernel
theorem dX3_loose_1 : decode cX3_loose 1 = .ok (.aload_n 0, 1) := by decide +kernel
theorem dX3_loose_2 : decode cX3_loose 2 = .ok (.getfield 28, 3) := by decide +kernel
theorem dX3_loose_5 : decode cX3_loose 5 = .ok (.ishl, 1) := by decide +kernel
theorem dX3_loose_6 : decode cX3_loose 6 = .ok (.iconst 1, 1) := by decide +kernel
theorem dX3_loose_7 : decode cX3_loose 7 = .ok (.isub, 1) := by decide +kernel
theorem dX3_loose_8 : decode cX3_loose 8 = .ok (.aload_n 0, 1) := by decide +kernel
theorem dX3_loose_9 : decode cX3_loose 9 = .ok (.getfield 24, 3) := by decide +kernel
theorem dX3_loose_12 : decode cX3_loose 12 = .ok (.iconst (-1), 1) := by decide +kernel
theorem dX3_loose_13 : decode cX3_loose 13 = .ok (.ixor, 1) := by decide +kernel
theorem dX3_loose_14 : decode cX3_loose 14 = .ok (.iand, 1) := by decide +kernel
theorem dX3_loose_15 : decode cX3_loose 15 = .ok (.ireturn, 1) := by decide +kernel
theorem dX3_add_0 : decode cX3_add 0 = .ok (.aload_n 0, 1) := by decide +kernel
theorem dX3_add_1 : decode cX3_add 1 = .ok (.getfield 28, 3) := by decide +kernel
theorem dX3_add_4 : decode cX3_add 4 = .ok (.ifCond .lt 12, 3) := by decide +kernel
theorem dX3_add_7 : decode cX3_add 7 = .ok (.aload_n 0, 1) := by decide +kernel
theorem dX3_add_8 : decode cX3_add 8 = .ok (.getfield 28, 3) := by decide +kernel
theorem dX3_add_11 : decode cX3_add 11 = .ok (.bipush 10, 2) := by decide +kernel
theorem dX3_add_13 : decode cX3_add 13 = .ok (.if_icmp .lt 6, 3) := by decide +kernel
theorem dX3_add_16 : decode cX3_add 16 = .ok (.bipush (-4), 2) := by decide +kernel
theorem dX3_add_18 : decode cX3_add 18 = .ok (.ireturn, 1) := by decide +kernel
theorem dX3_add_19 : decode cX3_add 19 = .ok (.aload_n 0, 1) := by decide +kernel
theorem dX3_add_20 : decode cX3_add 20 = .ok (.getfield 9, 3) := by decide +kernel
theorem dX3_add_23 : decode cX3_add 23 = .ok (.aload_n 0, 1) := by decide +kernel
theorem dX3_add_24 : decode cX3_add 24 = .ok (.getfield 28, 3) := by decide +kernel
theorem dX3_add_27 : decode cX3_add 27 = .ok (.iload_n 1, 1) := by decide +kernel
theorem dX3_add_28 : decode cX3_add 28 = .ok (.iastore, 1) := by decide +kernel
theorem dX3_add_29 : decode cX3_add 29 = .ok (.aload_n 0, 1) := by decide +kernel
theorem dX3_add_30 : decode cX3_add 30 = .ok (.getfield 15, 3) := by decide +kernel
theorem dX3_add_33 : decode cX3_add 33 = .ok (.aload_n 0, 1) := by decide +kernel
theorem dX3_add_34 : decode cX3_add 34 = .ok (.getfield 28, 3) := by decide +kernel
theorem dX3_add_37 : decode cX3_add 37 = .ok (.iload_n 2, 1) := by decide +kernel
theorem dX3_add_38 : decode cX3_add 38 = .ok (.iastore, 1) := by decide +kernel
theorem dX3_add_39 : decode cX3_add 39 = .ok (.aload_n 0, 1) := by decide +kernel
theorem dX3_add_40 : decode cX3_add 40 = .ok (.getfield 18, 3) := by decide +kernel
theorem dX3_add_43 : decode cX3_add 43 = .ok (.aload_n 0, 1) := by decide +kernel
theorem dX3_add_44 : decode cX3_add 44 = .ok (.getfield 28, 3) := by decide +kernel
theorem dX3_add_47 : decode cX3_add 47 = .ok (.iload_n 3, 1) := by decide +kernel
theorem dX3_add_48 : decode cX3_add 48 = .ok (.iastore, 1) := by decide +kernel
theorem dX3_add_49 : decode cX3_add 49 = .ok (.aload_n 0, 1) := by decide +kernel
theorem dX3_add_50 : decode cX3_add 50 = .ok (.getfield 21, 3) := by decide +kernel
theorem dX3_add_53 : decode cX3_add 53 = .ok (.aload_n 0, 1) := by decide +kernel
theorem dX3_add_54 : decode cX3_add 54 = .ok (.getfield 28, 3) := by decide +kernel
theorem dX3_add_57 : decode cX3_add 57 = .ok (.iload 4, 2) := by decide +kernel
theorem dX3_add_59 : decode cX3_add 59 = .ok (.iastore, 1) := by decide +kernel
theorem dX3_add_60 : decode cX3_add 60 = .ok (.aload_n 0, 1) := by decide +kernel
theorem dX3_add_61 : decode cX3_add 61 = .ok (.dup, 1) := by decide +kernel
theorem dX3_add_62 : decode cX3_add 62 = .ok (.getfield 28, 3) := by decide +kernel
theorem dX3_add_65 : decode cX3_add 65 = .ok (.dup_x1, 1) := by decide +kernel
theorem dX3_add_66 : decode cX3_add 66 = .ok (.iconst 1, 1) := by decide +kernel
theorem dX3_add_67 : decode cX3_add 67 = .ok (.iadd, 1) := by decide +kernel
theorem dX3_add_68 : decode cX3_add 68 = .ok (.putfield 28, 3) := by decide +kernel
theorem dX3_add_71 : decode cX3_add 71 = .ok (.ireturn, 1) := by decide +kernel
theorem dX3_copy_0 : decode cX3_copy 0 = .ok (.aload_n 1, 1) := by decide +kernel
theorem dX3_copy_1 : decode cX3_copy 1 = .ok (.getfield 9, 3) := by decide +kernel
theorem dX3_copy_4 : decode cX3_copy 4 = .ok (.iconst 0, 1) := by decide +kernel
theorem dX3_copy_5 : decode cX3_copy 5 = .ok (.aload_n 0, 1) := by decide +kernel
theorem dX3_copy_6 : decode cX3_copy 6 = .ok (.getfield 9, 3) := by decide +kernel
theorem dX3_copy_9 : decode cX3_copy 9 = .ok (.iconst 0, 1) := by decide +kernel
theorem dX3_copy_10 : decode cX3_copy 10 = .ok (.bipush 10, 2) := by decide +kernel
theorem dX3_copy_12 : decode cX3_copy 12 = .ok (.invokestatic 31, 3) := by decide +kernel
theorem dX3_copy_15 : decode cX3_copy 15 = .ok (.aload_n 1, 1) := by decide +kernel
theorem dX3_copy_16 : decode cX3_copy 16 = .ok (.getfield 15, 3) := by decide +kernel
theorem dX3_copy_19 : decode cX3_copy 19 = .ok (.iconst 0, 1) := by decide +kernel
theorem dX3_copy_20 : decode cX3_copy 20 = .ok (.aload_n 0, 1) := by decide +kernel
theorem dX3_copy_21 : decode cX3_copy 21 = .ok (.getfield 15, 3) := by decide +kernel
theorem dX3_copy_24 : decode cX3_copy 24 = .ok (.iconst 0, 1) := by decide +kernel
theorem dX3_copy_25 : decode cX3_copy 25 = .ok (.bipush 10, 2) := by decide +kernel
theorem dX3_copy_27 : decode cX3_copy 27 = .ok (.invokestatic 31, 3) := by decide +kernel
theorem dX3_copy_30 : decode cX3_copy 30 = .ok (.aload_n 1, 1) := by decide +kernel
theorem dX3_copy_31 : decode cX3_copy 31 = .ok (.getfield 18, 3) := by decide +kernel
theorem dX3_copy_34 : decode cX3_copy 34 = .ok (.iconst 0, 1) := by decide +kernel
theorem dX3_copy_35 : decode cX3_copy 35 = .ok (.aload_n 0, 1) := by decide +kernel
theorem dX3_copy_36 : decode cX3_copy 36 = .ok (.getfield 18, 3) := by decide +kernel
theorem dX3_copy_39 : decode cX3_copy 39 = .ok (.iconst 0, 1) := by decide +kernel
theorem dX3_copy_40 : decode cX3_copy 40 = .ok (.bipush 10, 2) := by decide +kernel
theorem dX3_copy_42 : decode cX3_copy 42 = .ok (.invokestatic 31, 3) := by decide +kernel
theorem dX3_copy_45 : decode cX3_copy 45 = .ok (.aload_n 1, 1) := by decide +kernel
theorem dX3_copy_46 : decode cX3_copy 46 = .ok (.getfield 21, 3) := by decide +kernel
theorem dX3_copy_49 : decode cX3_copy 49 = .ok (.iconst 0, 1) := by decide +kernel
theorem dX3_copy_50 : decode cX3_copy 50 = .ok (.aload_n 0, 1) := by decide +kernel
theorem dX3_copy_51 : decode cX3_copy 51 = .ok (.getfield 21, 3) := by decide +kernel
theorem dX3_copy_54 : decode cX3_copy 54 = .ok (.iconst 0, 1) := by decide +kernel
theorem dX3_copy_55 : decode cX3_copy 55 = .ok (.bipush 10, 2) := by decide +kernel
theorem dX3_copy_57 : decode cX3_copy 57 = .ok (.invokestatic 31, 3) := by decide +kernel
theorem dX3_copy_60 : decode cX3_copy 60 = .ok (.aload_n 0, 1) := by decide +kernel
theorem dX3_copy_61 : decode cX3_copy 61 = .ok (.aload_n 1, 1) := by decide +kernel
theorem dX3_copy_62 : decode cX3_copy 62 = .ok (.getfield 24, 3) := by decide +kernel
theorem dX3_copy_65 : decode cX3_copy 65 = .ok (.putfield 24, 3) := by decide +kernel
theorem dX3_copy_68 : decode cX3_copy 68 = .ok (.aload_n 0, 1) := by decide +kernel
theorem dX3_copy_69 : decode cX3_copy 69 = .ok (.aload_n 1, 1) := by decide +kernel
theorem dX3_copy_70 : decode cX3_copy 70 = .ok (.getfield 28, 3) := by decide +kernel
theorem dX3_copy_73 : decode cX3_copy 73 = .ok (.putfield 28, 3) := by decide +kernel
theorem dX3_copy_76 : decode cX3_copy 76 = .ok (.return_, 1) := by decide +kernel
theorem dX4_init_0 : decode cX4_init 0 = .ok (.aload_n 0, 1) := by decide +kernel
theorem dX4_init_1 : decode cX4_init 1 = .ok (.invokespecial 3, 3) := by decide +kernel
theorem dX4_init_4 : decode cX4_init 4 = .ok (.aload_n 0, 1) := by decide +kernel
theorem dX4_init_5 : decode cX4_init 5 = .ok (.bipush 12, 2) := by decide +kernel
theorem dX4_init_7 : decode cX4_init 7 = .ok (.newarray .int, 2) := by decide +kernel
theorem dX4_init_9 : decode cX4_init 9 = .ok (.putfield 9, 3) := by decide +kernel
theorem dX4_init_12 : decode cX4_init 12 = .ok (.aload_n 0, 1) := by decide +kernel
theorem dX4_init_13 : decode cX4_init 13 = .ok (.bipush 12, 2) := by decide +kernel
theorem dX4_init_15 : decode cX4_init 15 = .ok (.newarray .int, 2) := by decide +kernel
theorem dX4_init_17 : decode cX4_init 17 = .ok (.putfield 15, 3) := by decide +kernel
theorem dX4_init_20 : decode cX4_init 20 = .ok (.aload_n 0, 1) := by decide +kernel
theorem dX4_init_21 : decode cX4_init 21 = .ok (.bipush 12, 2) := by decide +kernel
theorem dX4_init_23 : decode cX4_init 23 = .ok (.newarray .int, 2) := by decide +kernel
theorem dX4_init_25 : decode cX4_init 25 = .ok (.putfield 18, 3) := by decide +kernel
theorem dX4_init_28 : decode cX4_init 28 = .ok (.aload_n 0, 1) := by decide +kernel
theorem dX4_init_29 : decode cX4_init 29 = .ok (.iconst 0, 1) := by decide +kernel
theorem dX4_init_30 : decode cX4_init 30 = .ok (.putfield 21, 3) := by decide +kernel
theorem dX4_init_33 : decode cX4_init 33 = .ok (.return_, 1) := by decide +kernel
theorem dX4_add_0 : decode cX4_add 0 = .ok (.aload_n 0, 1) := by decide +kernel
theorem dX4_add_1 : decode cX4_add 1 = .ok (.getfield 21, 3) := by decide +kernel
theorem dX4_add_4 : decode cX4_add 4 = .ok (.ifCond .lt 12, 3) := by decide +kernel
theorem dX4_add_7 : decode cX4_add 7 = .ok (.aload_n 0, 1) := by decide +kernel
theorem dX4_add_8 : decode cX4_add 8 = .ok (.getfield 21, 3) := by decide +kernel
theorem dX4_add_11 : decode cX4_add 11 = .ok (.bipush 12, 2) := by decide +kernel
theorem dX4_add_13 : decode cX4_add 13 = .ok (.if_icmp .lt 6, 3) := by decide +kernel
theorem dX4_add_16 : decode cX4_add 16 = .ok (.bipush (-4), 2) := by decide +kernel
theorem dX4_add_18 : decode cX4_add 18 = .ok (.ireturn, 1) := by decide +kernel
theorem dX4_add_19 : decode cX4_add 19 = .ok (.aload_n 0, 1) := by decide +kernel
theorem dX4_add_20 : decode cX4_add 20 = .ok (.getfield 9, 3) := by decide +kernel
theorem dX4_add_23 : decode cX4_add 23 = .ok (.aload_n 0, 1) := by decide +kernel
theorem dX4_add_24 : decode cX4_add 24 = .ok (.getfield 21, 3) := by decide +kernel
theorem dX4_add_27 : decode cX4_add 27 = .ok (.iload_n 1, 1) := by decide +kernel
theorem dX4_add_28 : decode cX4_add 28 = .ok (.iastore, 1) := by decide +kernel
theorem dX4_add_29 : decode cX4_add 29 = .ok (.aload_n 0, 1) := by decide +kernel
theorem dX4_add_30 : decode cX4_add 30 = .ok (.getfield 15, 3) := by decide +kernel
theorem dX4_add_33 : decode cX4_add 33 = .ok (.aload_n 0, 1) := by decide +kernel
theorem dX4_add_34 : decode cX4_add 34 = .ok (.getfield 21, 3) := by decide +kernel
theorem dX4_add_37 : decode cX4_add 37 = .ok (.iload_n 2, 1) := by decide +kernel
theorem dX4_add_38 : decode cX4_add 38 = .ok (.iastore, 1) := by decide +kernel
theorem dX4_add_39 : decode cX4_add 39 = .ok (.aload_n 0, 1) := by decide +kernel
theorem dX4_add_40 : decode cX4_add 40 = .ok (.getfield 18, 3) := by decide +kernel
theorem dX4_add_43 : decode cX4_add 43 = .ok (.aload_n 0, 1) := by decide +kernel
theorem dX4_add_44 : decode cX4_add 44 = .ok (.getfield 21, 3) := by decide +kernel
theorem dX4_add_47 : decode cX4_add 47 = .ok (.iload_n 3, 1) := by decide +kernel
theorem dX4_add_48 : decode cX4_add 48 = .ok (.iastore, 1) := by decide +kernel
theorem dX4_add_49 : decode cX4_add 49 = .ok (.aload_n 0, 1) := by decide +kernel
theorem dX4_add_50 : decode cX4_add 50 = .ok (.dup, 1) := by decide +kernel
theorem dX4_add_51 : decode cX4_add 51 = .ok (.getfield 21, 3) := by decide +kernel
theorem dX4_add_54 : decode cX4_add 54 = .ok (.iconst 1, 1) := by decide +kernel
theorem dX4_add_55 : decode cX4_add 55 = .ok (.iadd, 1) := by decide +kernel
theorem dX4_add_56 : decode cX4_add 56 = .ok (.putfield 21, 3) := by decide +kernel
theorem dX4_add_59 : decode cX4_add 59 = .ok (.aload_n 0, 1) := by decide +kernel
theorem dX4_add_60 : decode cX4_add 60 = .ok (.getfield 21, 3) := by decide +kernel
theorem dX4_add_63 : decode cX4_add 63 = .ok (.ireturn, 1) := by decide +kernel
theorem dX4_copy_0 : decode cX4_copy 0 = .ok (.aload_n 1, 1) := by decide +kernel
theorem dX4_copy_1 : decode cX4_copy 1 = .ok (.getfield 9, 3) := by decide +kernel
theorem dX4_copy_4 : decode cX4_copy 4 = .ok (.iconst 0, 1) := by decide +kernel
theorem dX4_copy_5 : decode cX4_copy 5 = .ok (.aload_n 0, 1) := by decide +kernel
theorem dX4_copy_6 : decode cX4_copy 6 = .ok (.getfield 9, 3) := by decide +kernel
theorem dX4_copy_9 : decode cX4_copy 9 = .ok (.iconst 0, 1) := by decide +kernel
theorem dX4_copy_10 : decode cX4_copy 10 = .ok (.bipush 12, 2) := by decide +kernel
theorem dX4_copy_12 : decode cX4_copy 12 = .ok (.invokestatic 25, 3) := by decide +kernel
theorem dX4_copy_15 : decode cX4_copy 15 = .ok (.aload_n 1, 1) := by decide +kernel
theorem dX4_copy_16 : decode cX4_copy 16 = .ok (.getfield 15, 3) := by decide +kernel
theorem dX4_copy_19 : decode cX4_copy 19 = .ok (.iconst 0, 1) := by decide +kernel
theorem dX4_copy_20 : decode cX4_copy 20 = .ok (.aload_n 0, 1) := by decide +kernel
theorem dX4_copy_21 : decode cX4_copy 21 = .ok (.getfield 15, 3) := by decide +kernel
theorem dX4_copy_24 : decode cX4_copy 24 = .ok (.iconst 0, 1) := by decide +kernel
theorem dX4_copy_25 : decode cX4_copy 25 = .ok (.bipush 12, 2) := by decide +kernel
theorem dX4_copy_27 : decode cX4_copy 27 = .ok (.invokestatic 25, 3) := by decide +kernel
theorem dX4_copy_30 : decode cX4_copy 30 = .ok (.aload_n 1, 1) := by decide +kernel
theorem dX4_copy_31 : decode cX4_copy 31 = .ok (.getfield 18, 3) := by decide +kernel
theorem dX4_copy_34 : decode cX4_copy 34 = .ok (.iconst 0, 1) := by decide +kernel
theorem dX4_copy_35 : decode cX4_copy 35 = .ok (.aload_n 0, 1) := by decide +kernel
theorem dX4_copy_36 : decode cX4_copy 36 = .ok (.getfield 18, 3) := by decide +kernel
theorem dX4_copy_39 : decode cX4_copy 39 = .ok (.iconst 0, 1) := by decide +kernel
theorem dX4_copy_40 : decode cX4_copy 40 = .ok (.bipush 12, 2) := by decide +kernel
theorem dX4_copy_42 : decode cX4_copy 42 = .ok (.invokestatic 25, 3) := by decide +kernel
theorem dX4_copy_45 : decode cX4_copy 45 = .ok (.aload_n 0, 1) := by decide +kernel
theorem dX4_copy_46 : decode cX4_copy 46 = .ok (.aload_n 1, 1) := by decide +kernel
theorem dX4_copy_47 : decode cX4_copy 47 = .ok (.getfield 21, 3) := by decide +kernel
theorem dX4_copy_50 : decode cX4_copy 50 = .ok (.putfield 21, 3) := by decide +kernel
theorem dX4_copy_53 : decode cX4_copy 53 = .ok (.return_, 1) := by decide +kernel
theorem dX5_init_0 : decode cX5_init 0 = .ok (.aload_n 0, 1) := by decide +kernel
theorem dX5_init_1 : decode cX5_init 1 = .ok (.invokespecial 3, 3) := by decide +kernel
theorem dX5_init_4 : decode cX5_init 4 = .ok (.aload_n 0, 1) := by decide +kernel
theorem dX5_init_5 : decode cX5_init 5 = .ok (.new 9, 3) := by decide +kernel
theorem dX5_init_8 : decode cX5_init 8 = .ok (.dup, 1) := by decide +kernel
theorem dX5_init_9 : decode cX5_init 9 = .ok (.invokespecial 11, 3) := by decide +kernel
theorem dX5_init_12 : decode cX5_init 12 = .ok (.putfield 12, 3) := by decide +kernel
theorem dX5_init_15 : decode cX5_init 15 = .ok (.aload_n 0, 1) := by decide +kernel
theorem dX5_init_16 : decode cX5_init 16 = .ok (.new 18, 3) := by decide +kernel
theorem dX5_init_19 : decode cX5_init 19 = .ok (.dup, 1) := by decide +kernel
theorem dX5_init_20 : decode cX5_init 20 = .ok (.invokespecial 20, 3) := by decide +kernel
theorem dX5_init_23 : decode cX5_init 23 = .ok (.putfield 21, 3) := by decide +kernel
theorem dX5_init_26 : decode cX5_init 26 = .ok (.aload_n 0, 1) := by decide +kernel
theorem dX5_init_27 : decode cX5_init 27 = .ok (.iconst 0, 1) := by decide +kernel
theorem dX5_init_28 : decode cX5_init 28 = .ok (.putfield 25, 3) := by decide +kernel
theorem dX5_init_31 : decode cX5_init 31 = .ok (.return_, 1) := by decide +kernel
theorem dX5_reads_0 : decode cX5_reads 0 = .ok (.aload_n 0, 1) := by decide +kernel
theorem dX5_reads_1 : decode cX5_reads 1 = .ok (.getfield 21, 3) := by decide +kernel
theorem dX5_reads_4 : decode cX5_reads 4 = .ok (.aload_n 1, 1) := by decide +kernel
theorem dX5_reads_5 : decode cX5_reads 5 = .ok (.invokevirtual 29, 3) := by decide +kernel
theorem dX5_reads_8 : decode cX5_reads 8 = .ok (.aload_n 0, 1) := by decide +kernel
theorem dX5_reads_9 : decode cX5_reads 9 = .ok (.iconst 0, 1) := by decide +kernel
theorem dX5_reads_10 : decode cX5_reads 10 = .ok (.putfield 25, 3) := by decide +kernel
theorem dX5_reads_13 : decode cX5_reads 13 = .ok (.aload_n 0, 1) := by decide +kernel
theorem dX5_reads_14 : decode cX5_reads 14 = .ok (.getfield 12, 3) := by decide +kernel
theorem dX5_reads_17 : decode cX5_reads 17 = .ok (.invokevirtual 33, 3) := by decide +kernel
theorem dX5_reads_20 : decode cX5_reads 20 = .ok (.iconst 1, 1) := by decide +kernel
theorem dX5_reads_21 : decode cX5_reads 21 = .ok (.istore_n 2, 1) := by decide +kernel
theorem dX5_reads_22 : decode cX5_reads 22 = .ok (.iload_n 2, 1) := by decide +kernel
theorem dX5_reads_23 : decode cX5_reads 23 = .ok (.bipush 10, 2) := by decide +kernel
theorem dX5_reads_25 : decode cX5_reads 25 = .ok (.if_icmp .gt 51, 3) := by decide +kernel
theorem dX5_reads_28 : decode cX5_reads 28 = .ok (.aload_n 0, 1) := by decide +kernel
theorem dX5_reads_29 : decode cX5_reads 29 = .ok (.invokevirtual 36, 3) := by decide +kernel
theorem dX5_reads_32 : decode cX5_reads 32 = .ok (.ifCond .ne 5, 3) := by decide +kernel
theorem dX5_reads_35 : decode cX5_reads 35 = .ok (.iconst 0, 1) := by decide +kernel
theorem dX5_reads_36 : decode cX5_reads 36 = .ok (.ireturn, 1) := by decide +kernel
theorem dX5_reads_37 : decode cX5_reads 37 = .ok (.aload_n 0, 1) := by decide +kernel
theorem dX5_reads_38 : decode cX5_reads 38 = .ok (.getfield 25, 3) := by decide +kernel
theorem dX5_reads_41 : decode cX5_reads 41 = .ok (.aload_n 0, 1) := by decide +kernel
theorem dX5_reads_42 : decode cX5_reads 42 = .ok (.getfield 21, 3) := by decide +kernel
theorem dX5_reads_45 : decode cX5_reads 45 = .ok (.getfield 40, 3) := by decide +kernel
theorem dX5_reads_48 : decode cX5_reads 48 = .ok (.if_icmp .lt 5, 3) := by decide +kernel
theorem dX5_reads_51 : decode cX5_reads 51 = .ok (.iconst 1, 1) := by decide +kernel
theorem dX5_reads_52 : decode cX5_reads 52 = .ok (.ireturn, 1) := by decide +kernel
theorem dX5_reads_53 : decode cX5_reads 53 = .ok (.iload_n 2, 1) := by decide +kernel
theorem dX5_reads_54 : decode cX5_reads 54 = .ok (.bipush 10, 2) := by decide +kernel
theorem dX5_reads_56 : decode cX5_reads 56 = .ok (.if_icmp .eq 12, 3) := by decide +kernel
theorem dX5_reads_59 : decode cX5_reads 59 = .ok (.aload_n 0, 1) := by decide +kernel
theorem dX5_reads_60 : decode cX5_reads 60 = .ok (.bipush 59, 2) := by decide +kernel
theorem dX5_reads_62 : decode cX5_reads 62 = .ok (.invokevirtual 43, 3) := by decide +kernel
theorem dX5_reads_65 : decode cX5_reads 65 = .ok (.ifCond .ne 5, 3) := by decide +kernel
theorem dX5_reads_68 : decode cX5_reads 68 = .ok (.iconst 0, 1) := by decide +kernel
theorem dX5_reads_69 : decode cX5_reads 69 = .ok (.ireturn, 1) := by decide +kernel
theorem dX5_reads_70 : decode cX5_reads 70 = .ok (.iinc 2 1, 3) := by decide +kernel
theorem dX5_reads_73 : decode cX5_reads 73 = .ok (.goto (-51), 3) := by decide +kernel
theorem dX5_reads_76 : decode cX5_reads 76 = .ok (.iconst 0, 1) := by decide +kernel
theorem dX5_reads_77 : decode cX5_reads 77 = .ok (.ireturn, 1) := by decide +kernel
theorem dX5_peek_0 : decode cX5_peek 0 = .ok (.aload_n 0, 1) := by decide +kernel
theorem dX5_peek_1 : decode cX5_peek 1 = .ok (.getfield 25, 3) := by decide +kernel
theorem dX5_peek_4 : decode cX5_peek 4 = .ok (.ifCond .lt 47, 3) := by decide +kernel
theorem dX5_peek_7 : decode cX5_peek 7 = .ok (.aload_n 0, 1) := by decide +kernel
theorem dX5_peek_8 : decode cX5_peek 8 = .ok (.getfield 25, 3) := by decide +kernel
theorem dX5_peek_11 : decode cX5_peek 11 = .ok (.aload_n 0, 1) := by decide +kernel
theorem dX5_peek_12 : decode cX5_peek 12 = .ok (.getfield 21, 3) := by decide +kernel
theorem dX5_peek_15 : decode cX5_peek 15 = .ok (.getfield 40, 3) := by decide +kernel
theorem dX5_peek_18 : decode cX5_peek 18 = .ok (.if_icmp .ge 33, 3) := by decide +kernel
theorem dX5_peek_21 : decode cX5_peek 21 = .ok (.aload_n 0, 1) := by decide +kernel
theorem dX5_peek_22 : decode cX5_peek 22 = .ok (.getfield 25, 3) := by decide +kernel
theorem dX5_peek_25 : decode cX5_peek 25 = .ok (.aload_n 0, 1) := by decide +kernel
theorem dX5_peek_26 : decode cX5_peek 26 = .ok (.getfield 21, 3) := by decide +kernel
theorem dX5_peek_29 : decode cX5_peek 29 = .ok (.getfield 47, 3) := by decide +kernel
theorem dX5_peek_32 : decode cX5_peek 32 = .ok (.arraylength, 1) := by decide +kernel
theorem dX5_peek_33 : decode cX5_peek 33 = .ok (.if_icmp .ge 18, 3) := by decide +kernel
theorem dX5_peek_36 : decode cX5_peek 36 = .ok (.aload_n 0, 1) := by decide +kernel
theorem dX5_peek_37 : decode cX5_peek 37 = .ok (.getfield 21, 3) := by decide +kernel
theorem dX5_peek_40 : decode cX5_peek 40 = .ok (.getfield 47, 3) := by decide +kernel
theorem dX5_peek_43 : decode cX5_peek 43 = .ok (.aload_n 0, 1) := by decide +kernel
theorem dX5_peek_44 : decode cX5_peek 44 = .ok (.getfield 25, 3) := by decide +kernel
theorem dX5_peek_47 : decode cX5_peek 47 = .ok (.iaload, 1) := by decide +kernel
theorem dX5_peek_48 : decode cX5_peek 48 = .ok (.goto 4, 3) := by decide +kernel
theorem dX5_peek_51 : decode cX5_peek 51 = .ok (.iconst (-1), 1) := by decide +kernel
theorem dX5_peek_52 : decode cX5_peek 52 = .ok (.ireturn, 1) := by decide +kernel
theorem dX5_eats_0 : decode cX5_eats 0 = .ok (.aload_n 0, 1) := by decide +kernel
theorem dX5_eats_1 : decode cX5_eats 1 = .ok (.invokevirtual 51, 3) := by decide +kernel
theorem dX5_eats_4 : decode cX5_eats 4 = .ok (.iload_n 1, 1) := by decide +kernel
theorem dX5_eats_5 : decode cX5_eats 5 = .ok (.if_icmp .eq 5, 3) := by decide +kernel
theorem dX5_eats_8 : decode cX5_eats 8 = .ok (.iconst 0, 1) := by decide +kernel
theorem dX5_eats_9 : decode cX5_eats 9 = .ok (.ireturn, 1) := by decide +kernel
theorem dX5_eats_10 : decode cX5_eats 10 = .ok (.aload_n 0, 1) := by decide +kernel
theorem dX5_eats_11 : decode cX5_eats 11 = .ok (.dup, 1) := by decide +kernel
theorem dX5_eats_12 : decode cX5_eats 12 = .ok (.getfield 25, 3) := by decide +kernel
theorem dX5_eats_15 : decode cX5_eats 15 = .ok (.iconst 1, 1) := by decide +kernel
theorem dX5_eats_16 : decode cX5_eats 16 = .ok (.iadd, 1) := by decide +kernel
theorem dX5_eats_17 : decode cX5_eats 17 = .ok (.putfield 25, 3) := by decide +kernel
theorem dX5_eats_20 : decode cX5_eats 20 = .ok (.iconst 1, 1) := by decide +kernel
theorem dX5_eats_21 : decode cX5_eats 21 = .ok (.ireturn, 1) := by decide +kernel
theorem dX5_clause_0 : decode cX5_clause 0 = .ok (.aload_n 0, 1) := by decide +kernel
theorem dX5_clause_1 : decode cX5_clause 1 = .ok (.invokevirtual 55, 3) := by decide +kernel
theorem dX5_clause_4 : decode cX5_clause 4 = .ok (.istore_n 1, 1) := by decide +kernel
theorem dX5_clause_5 : decode cX5_clause 5 = .ok (.iload_n 1, 1) := by decide +kernel
theorem dX5_clause_6 : decode cX5_clause 6 = .ok (.ifCond .ge 5, 3) := by decide +kernel
theorem dX5_clause_9 : decode cX5_clause 9 = .ok (.iconst 0, 1) := by decide +kernel
theorem dX5_clause_10 : decode cX5_clause 10 = .ok (.ireturn, 1) := by decide +kernel
theorem dX5_clause_11 : decode cX5_clause 11 = .ok (.aload_n 0, 1) := by decide +kernel
theorem dX5_clause_12 : decode cX5_clause 12 = .ok (.invokevirtual 58, 3) := by decide +kernel
theorem dX5_clause_15 : decode cX5_clause 15 = .ok (.istore_n 2, 1) := by decide +kernel
theorem dX5_clause_16 : decode cX5_clause 16 = .ok (.iload_n 2, 1) := by decide +kernel
theorem dX5_clause_17 : decode cX5_clause 17 = .ok (.ifCond .ge 5, 3) := by decide +kernel
theorem dX5_clause_20 : decode cX5_clause 20 = .ok (.iconst 0, 1) := by decide +kernel
theorem dX5_clause_21 : decode cX5_clause 21 = .ok (.ireturn, 1) := by decide +kernel
theorem dX5_clause_22 : decode cX5_clause 22 = .ok (.iload_n 1, 1) := by decide +kernel
theorem dX5_clause_23 : decode cX5_clause 23 = .ok (.iconst 2, 1) := by decide +kernel
theorem dX5_clause_24 : decode cX5_clause 24 = .ok (.isub, 1) := by decide +kernel
theorem dX5_clause_25 : decode cX5_clause 25 = .ok (.istore_n 3, 1) := by decide +kernel
theorem dX5_clause_26 : decode cX5_clause 26 = .ok (.iload_n 3, 1) := by decide +kernel
theorem dX5_clause_27 : decode cX5_clause 27 = .ok (.ifCond .lt 20, 3) := by decide +kernel
theorem dX5_clause_30 : decode cX5_clause 30 = .ok (.iload_n 3, 1) := by decide +kernel
theorem dX5_clause_31 : decode cX5_clause 31 = .ok (.iconst 5, 1) := by decide +kernel
theorem dX5_clause_32 : decode cX5_clause 32 = .ok (.if_icmp .ge 15, 3) := by decide +kernel
theorem dX5_clause_35 : decode cX5_clause 35 = .ok (.aload_n 0, 1) := by decide +kernel
theorem dX5_clause_36 : decode cX5_clause 36 = .ok (.getfield 12, 3) := by decide +kernel
theorem dX5_clause_39 : decode cX5_clause 39 = .ok (.getfield 61, 3) := by decide +kernel
theorem dX5_clause_42 : decode cX5_clause 42 = .ok (.iload_n 3, 1) := by decide +kernel
theorem dX5_clause_43 : decode cX5_clause 43 = .ok (.iload_n 2, 1) := by decide +kernel
theorem dX5_clause_44 : decode cX5_clause 44 = .ok (.iastore, 1) := by decide +kernel
theorem dX5_clause_45 : decode cX5_clause 45 = .ok (.iconst 1, 1) := by decide +kernel
theorem dX5_clause_46 : decode cX5_clause 46 = .ok (.ireturn, 1) := by decide +kernel
theorem dX5_clause_47 : decode cX5_clause 47 = .ok (.aload_n 0, 1) := by decide +kernel
theorem dX5_clause_48 : decode cX5_clause 48 = .ok (.bipush 32, 2) := by decide +kernel
theorem dX5_clause_50 : decode cX5_clause 50 = .ok (.invokevirtual 43, 3) := by decide +kernel
theorem dX5_clause_53 : decode cX5_clause 53 = .ok (.ifCond .eq 11, 3) := by decide +kernel
theorem dX5_clause_56 : decode cX5_clause 56 = .ok (.aload_n 0, 1) := by decide +kernel
theorem dX5_clause_57 : decode cX5_clause 57 = .ok (.iconst 0, 1) := by decide +kernel
theorem dX5_clause_58 : decode cX5_clause 58 = .ok (.invokevirtual 64, 3) := by decide +kernel
theorem dX5_clause_61 : decode cX5_clause 61 = .ok (.ifCond .ne 5, 3) := by decide +kernel
theorem dX5_clause_64 : decode cX5_clause 64 = .ok (.iconst 0, 1) := by decide +kernel
theorem dX5_clause_65 : decode cX5_clause 65 = .ok (.ireturn, 1) := by decide +kernel
theorem dX5_clause_66 : decode cX5_clause 66 = .ok (.aload_n 0, 1) := by decide +kernel
theorem dX5_clause_67 : decode cX5_clause 67 = .ok (.getfield 12, 3) := by decide +kernel
theorem dX5_clause_70 : decode cX5_clause 70 = .ok (.iload_n 1, 1) := by decide +kernel
theorem dX5_clause_71 : decode cX5_clause 71 = .ok (.ifCond .ne 7, 3) := by decide +kernel
theorem dX5_clause_74 : decode cX5_clause 74 = .ok (.iconst 1, 1) := by decide +kernel
theorem dX5_clause_75 : decode cX5_clause 75 = .ok (.goto 4, 3) := by decide +kernel
theorem dX5_clause_78 : decode cX5_clause 78 = .ok (.iconst 0, 1) := by decide +kernel
theorem dX5_clause_79 : decode cX5_clause 79 = .ok (.iload_n 2, 1) := by decide +kernel
theorem dX5_clause_80 : decode cX5_clause 80 = .ok (.invokevirtual 68, 3) := by decide +kernel
theorem dX5_clause_83 : decode cX5_clause 83 = .ok (.iconst 1, 1) := by decide +kernel
theorem dX5_clause_84 : decode cX5_clause 84 = .ok (.ireturn, 1) := by decide +kernel
theorem dX5_word_0 : decode cX5_word 0 = .ok (.bipush 127, 2) := by decide +kernel
theorem dX5_word_2 : decode cX5_word 2 = .ok (.istore_n 1, 1) := by decide +kernel
theorem dX5_word_3 : decode cX5_word 3 = .ok (.iconst 0, 1) := by decide +kernel
theorem dX5_word_4 : decode cX5_word 4 = .ok (.istore_n 2, 1) := by decide +kernel
theorem dX5_word_5 : decode cX5_word 5 = .ok (.iload_n 2, 1) := by decide +kernel
theorem dX5_word_6 : decode cX5_word 6 = .ok (.iconst 5, 1) := by decide +kernel
theorem dX5_word_7 : decode cX5_word 7 = .ok (.if_icmp .ge 103, 3) := by decide +kernel
theorem dX5_word_10 : decode cX5_word 10 = .ok (.iconst (-1), 1) := by decide +kernel
theorem dX5_word_11 : decode cX5_word 11 = .ok (.istore_n 3, 1) := by decide +kernel
theorem dX5_word_12 : decode cX5_word 12 = .ok (.iconst 0, 1) := by decide +kernel
theorem dX5_word_13 : decode cX5_word 13 = .ok (.istore 4, 2) := by decide +kernel
theorem dX5_word_15 : decode cX5_word 15 = .ok (.iconst 0, 1) := by decide +kernel
theorem dX5_word_16 : decode cX5_word 16 = .ok (.istore 5, 2) := by decide +kernel
theorem dX5_word_18 : decode cX5_word 18 = .ok (.iload 5, 2) := by decide +kernel
theorem dX5_word_20 : decode cX5_word 20 = .ok (.bipush 7, 2) := by decide +kernel
theorem dX5_word_22 : decode cX5_word 22 = .ok (.if_icmp .ge 51, 3) := by decide +kernel
theorem dX5_word_25 : decode cX5_word 25 = .ok (.iload_n 1, 1) := by decide +kernel
theorem dX5_word_26 : decode cX5_word 26 = .ok (.iload 5, 2) := by decide +kernel
theorem dX5_word_28 : decode cX5_word 28 = .ok (.ishr, 1) := by decide +kernel
theorem dX5_word_29 : decode cX5_word 29 = .ok (.iconst 1, 1) := by decide +kernel
theorem dX5_word_30 : decode cX5_word 30 = .ok (.iand, 1) := by decide +kernel
theorem dX5_word_31 : decode cX5_word 31 = .ok (.ifCond .eq 36, 3) := by decide +kernel
theorem dX5_word_34 : decode cX5_word 34 = .ok (.ldc 72, 2) := by decide +kernel
theorem dX5_word_36 : decode cX5_word 36 = .ok (.iload 5, 2) := by decide +kernel
theorem dX5_word_38 : decode cX5_word 38 = .ok (.iconst 5, 1) := by decide +kernel
theorem dX5_word_39 : decode cX5_word 39 = .ok (.imul, 1) := by decide +kernel
theorem dX5_word_40 : decode cX5_word 40 = .ok (.iload_n 2, 1) := by decide +kernel
theorem dX5_word_41 : decode cX5_word 41 = .ok (.iadd, 1) := by decide +kernel
theorem dX5_word_42 : decode cX5_word 42 = .ok (.invokevirtual 74, 3) := by decide +kernel
theorem dX5_word_45 : decode cX5_word 45 = .ok (.aload_n 0, 1) := by decide +kernel
theorem dX5_word_46 : decode cX5_word 46 = .ok (.invokevirtual 51, 3) := by decide +kernel
theorem dX5_word_49 : decode cX5_word 49 = .ok (.if_icmp .eq 6, 3) := by decide +kernel
theorem dX5_word_52 : decode cX5_word 52 = .ok (.goto 15, 3) := by decide +kernel
theorem dX5_word_55 : decode cX5_word 55 = .ok (.iload 4, 2) := by decide +kernel
theorem dX5_word_57 : decode cX5_word 57 = .ok (.iconst 1, 1) := by decide +kernel
theorem dX5_word_58 : decode cX5_word 58 = .ok (.iload 5, 2) := by decide +kernel
theorem dX5_word_60 : decode cX5_word 60 = .ok (.ishl, 1) := by decide +kernel
theorem dX5_word_61 : decode cX5_word 61 = .ok (.ior, 1) := by decide +kernel
theorem dX5_word_62 : decode cX5_word 62 = .ok (.istore 4, 2) := by decide +kernel
theorem dX5_word_64 : decode cX5_word 64 = .ok (.iload 5, 2) := by decide +kernel
theorem dX5_word_66 : decode cX5_word 66 = .ok (.istore_n 3, 1) := by decide +kernel
theorem dX5_word_67 : decode cX5_word 67 = .ok (.iinc 5 1, 3) := by decide +kernel
theorem dX5_word_70 : decode cX5_word 70 = .ok (.goto (-52), 3) := by decide +kernel
theorem dX5_word_73 : decode cX5_word 73 = .ok (.iload 4, 2) := by decide +kernel
theorem dX5_word_75 : decode cX5_word 75 = .ok (.ifCond .ne 5, 3) := by decide +kernel
theorem dX5_word_78 : decode cX5_word 78 = .ok (.iconst (-1), 1) := by decide +kernel
theorem dX5_word_79 : decode cX5_word 79 = .ok (.ireturn, 1) := by decide +kernel
theorem dX5_word_80 : decode cX5_word 80 = .ok (.aload_n 0, 1) := by decide +kernel
theorem dX5_word_81 : decode cX5_word 81 = .ok (.bipush 32, 2) := by decide +kernel
theorem dX5_word_83 : decode cX5_word 83 = .ok (.invokevirtual 43, 3) := by decide +kernel
theorem dX5_word_86 : decode cX5_word 86 = .ok (.ifCond .eq 5, 3) := by decide +kernel
theorem dX5_word_89 : decode cX5_word 89 = .ok (.iload_n 3, 1) := by decide +kernel
theorem dX5_word_90 : decode cX5_word 90 = .ok (.ireturn, 1) := by decide +kernel
theorem dX5_word_91 : decode cX5_word 91 = .ok (.aload_n 0, 1) := by decide +kernel
theorem dX5_word_92 : decode cX5_word 92 = .ok (.dup, 1) := by decide +kernel
theorem dX5_word_93 : decode cX5_word 93 = .ok (.getfield 25, 3) := by decide +kernel
theorem dX5_word_96 : decode cX5_word 96 = .ok (.iconst 1, 1) := by decide +kernel
theorem dX5_word_97 : decode cX5_word 97 = .ok (.iadd, 1) := by decide +kernel
theorem dX5_word_98 : decode cX5_word 98 = .ok (.putfield 25, 3) := by decide +kernel
theorem dX5_word_101 : decode cX5_word 101 = .ok (.iload 4, 2) := by decide +kernel
theorem dX5_word_103 : decode cX5_word 103 = .ok (.istore_n 1, 1) := by decide +kernel
theorem dX5_word_104 : decode cX5_word 104 = .ok (.iinc 2 1, 3) := by decide +kernel
theorem dX5_word_107 : decode cX5_word 107 = .ok (.goto (-102), 3) := by decide +kernel
theorem dX5_word_110 : decode cX5_word 110 = .ok (.iconst (-1), 1) := by decide +kernel
theorem dX5_word_111 : decode cX5_word 111 = .ok (.ireturn, 1) := by decide +kernel
theorem dX5_digit_0 : decode cX5_digit 0 = .ok (.aload_n 0, 1) := by decide +kernel
theorem dX5_digit_1 : decode cX5_digit 1 = .ok (.invokevirtual 51, 3) := by decide +kernel
theorem dX5_digit_4 : decode cX5_digit 4 = .ok (.istore_n 1, 1) := by decide +kernel
theorem dX5_digit_5 : decode cX5_digit 5 = .ok (.iload_n 1, 1) := by decide +kernel
theorem dX5_digit_6 : decode cX5_digit 6 = .ok (.bipush 48, 2) := by decide +kernel
theorem dX5_digit_8 : decode cX5_digit 8 = .ok (.if_icmp .lt 16, 3) := by decide +kernel
theorem dX5_digit_11 : decode cX5_digit 11 = .ok (.iload_n 1, 1) := by decide +kernel
theorem dX5_digit_12 : decode cX5_digit 12 = .ok (.bipush 57, 2) := by decide +kernel
theorem dX5_digit_14 : decode cX5_digit 14 = .ok (.if_icmp .gt 10, 3) := by decide +kernel
theorem dX5_digit_17 : decode cX5_digit 17 = .ok (.iload_n 1, 1) := by decide +kernel
theorem dX5_digit_18 : decode cX5_digit 18 = .ok (.bipush 48, 2) := by decide +kernel
theorem dX5_digit_20 : decode cX5_digit 20 = .ok (.isub, 1) := by decide +kernel
theorem dX5_digit_21 : decode cX5_digit 21 = .ok (.goto 4, 3) := by decide +kernel
theorem dX5_digit_24 : decode cX5_digit 24 = .ok (.iconst (-1), 1) := by decide +kernel
theorem dX5_digit_25 : decode cX5_digit 25 = .ok (.ireturn, 1) := by decide +kernel
theorem dX5_number_0 : decode cX5_number 0 = .ok (.aload_n 0, 1) := by decide +kernel
theorem dX5_number_1 : decode cX5_number 1 = .ok (.invokevirtual 80, 3) := by decide +kernel
theorem dX5_number_4 : decode cX5_number 4 = .ok (.istore_n 1, 1) := by decide +kernel
theorem dX5_number_5 : decode cX5_number 5 = .ok (.iload_n 1, 1) := by decide +kernel
theorem dX5_number_6 : decode cX5_number 6 = .ok (.ifCond .ge 5, 3) := by decide +kernel
theorem dX5_number_9 : decode cX5_number 9 = .ok (.iconst (-1), 1) := by decide +kernel
theorem dX5_number_10 : decode cX5_number 10 = .ok (.ireturn, 1) := by decide +kernel
theorem dX5_number_11 : decode cX5_number 11 = .ok (.aload_n 0, 1) := by decide +kernel
theorem dX5_number_12 : decode cX5_number 12 = .ok (.dup, 1) := by decide +kernel
theorem dX5_number_13 : decode cX5_number 13 = .ok (.getfield 25, 3) := by decide +kernel
theorem dX5_number_16 : decode cX5_number 16 = .ok (.iconst 1, 1) := by decide +kernel
theorem dX5_number_17 : decode cX5_number 17 = .ok (.iadd, 1) := by decide +kernel
theorem dX5_number_18 : decode cX5_number 18 = .ok (.putfield 25, 3) := by decide +kernel
theorem dX5_number_21 : decode cX5_number 21 = .ok (.aload_n 0, 1) := by decide +kernel
theorem dX5_number_22 : decode cX5_number 22 = .ok (.invokevirtual 80, 3) := by decide +kernel
theorem dX5_number_25 : decode cX5_number 25 = .ok (.istore_n 2, 1) := by decide +kernel
theorem dX5_number_26 : decode cX5_number 26 = .ok (.iload_n 1, 1) := by decide +kernel
theorem dX5_number_27 : decode cX5_number 27 = .ok (.ifCond .eq 7, 3) := by decide +kernel
theorem dX5_number_30 : decode cX5_number 30 = .ok (.iload_n 2, 1) := by decide +kernel
theorem dX5_number_31 : decode cX5_number 31 = .ok (.ifCond .ge 5, 3) := by decide +kernel
theorem dX5_number_34 : decode cX5_number 34 = .ok (.iload_n 1, 1) := by decide +kernel
theorem dX5_number_35 : decode cX5_number 35 = .ok (.ireturn, 1) := by decide +kernel
theorem dX5_number_36 : decode cX5_number 36 = .ok (.aload_n 0, 1) := by decide +kernel
theorem dX5_number_37 : decode cX5_number 37 = .ok (.dup, 1) := by decide +kernel
theorem dX5_number_38 : decode cX5_number 38 = .ok (.getfield 25, 3) := by decide +kernel
theorem dX5_number_41 : decode cX5_number 41 = .ok (.iconst 1, 1) := by decide +kernel
theorem dX5_number_42 : decode cX5_number 42 = .ok (.iadd, 1) := by decide +kernel
theorem dX5_number_43 : decode cX5_number 43 = .ok (.putfield 25, 3) := by decide +kernel
theorem dX5_number_46 : decode cX5_number 46 = .ok (.bipush 10, 2) := by decide +kernel
theorem dX5_number_48 : decode cX5_number 48 = .ok (.iload_n 1, 1) := by decide +kernel
theorem dX5_number_49 : decode cX5_number 49 = .ok (.imul, 1) := by decide +kernel
theorem dX5_number_50 : decode cX5_number 50 = .ok (.iload_n 2, 1) := by decide +kernel
theorem dX5_number_51 : decode cX5_number 51 = .ok (.iadd, 1) := by decide +kernel
theorem dX5_number_52 : decode cX5_number 52 = .ok (.ireturn, 1) := by decide +kernel
theorem dX5_either_0 : decode cX5_either 0 = .ok (.aload_n 0, 1) := by decide +kernel
theorem dX5_either_1 : decode cX5_either 1 = .ok (.iload_n 1, 1) := by decide +kernel
theorem dX5_either_2 : decode cX5_either 2 = .ok (.invokevirtual 83, 3) := by decide +kernel
theorem dX5_either_5 : decode cX5_either 5 = .ok (.ifCond .ne 5, 3) := by decide +kernel
theorem dX5_either_8 : decode cX5_either 8 = .ok (.iconst 0, 1) := by decide +kernel
theorem dX5_either_9 : decode cX5_either 9 = .ok (.ireturn, 1) := by decide +kernel
theorem dX5_either_10 : decode cX5_either 10 = .ok (.iconst 0, 1) := by decide +kernel
theorem dX5_either_11 : decode cX5_either 11 = .ok (.istore_n 2, 1) := by decide +kernel
theorem dX5_either_12 : decode cX5_either 12 = .ok (.iload_n 2, 1) := by decide +kernel
theorem dX5_either_13 : decode cX5_either 13 = .ok (.bipush 120, 2) := by decide +kernel
theorem dX5_either_15 : decode cX5_either 15 = .ok (.if_icmp .ge 37, 3) := by decide +kernel
theorem dX5_either_18 : decode cX5_either 18 = .ok (.aload_n 0, 1) := by decide +kernel
theorem dX5_either_19 : decode cX5_either 19 = .ok (.bipush 124, 2) := by decide +kernel
theorem dX5_either_21 : decode cX5_either 21 = .ok (.invokevirtual 43, 3) := by decide +kernel
theorem dX5_either_24 : decode cX5_either 24 = .ok (.ifCond .eq 28, 3) := by decide +kernel
theorem dX5_either_27 : decode cX5_either 27 = .ok (.aload_n 0, 1) := by decide +kernel
theorem dX5_either_28 : decode cX5_either 28 = .ok (.iload_n 1, 1) := by decide +kernel
theorem dX5_either_29 : decode cX5_either 29 = .ok (.invokevirtual 83, 3) := by decide +kernel
theorem dX5_either_32 : decode cX5_either 32 = .ok (.ifCond .ne 5, 3) := by decide +kernel
theorem dX5_either_35 : decode cX5_either 35 = .ok (.iconst 0, 1) := by decide +kernel
theorem dX5_either_36 : decode cX5_either 36 = .ok (.ireturn, 1) := by decide +kernel
theorem dX5_either_37 : decode cX5_either 37 = .ok (.aload_n 0, 1) := by decide +kernel
theorem dX5_either_38 : decode cX5_either 38 = .ok (.getfield 12, 3) := by decide +kernel
theorem dX5_either_41 : decode cX5_either 41 = .ok (.bipush (-3), 2) := by decide +kernel
theorem dX5_either_43 : decode cX5_either 43 = .ok (.invokevirtual 86, 3) := by decide +kernel
theorem dX5_either_46 : decode cX5_either 46 = .ok (.iinc 2 1, 3) := by decide +kernel
theorem dX5_either_49 : decode cX5_either 49 = .ok (.goto (-37), 3) := by decide +kernel
theorem dX5_either_52 : decode cX5_either 52 = .ok (.iconst 1, 1) := by decide +kernel
theorem dX5_either_53 : decode cX5_either 53 = .ok (.ireturn, 1) := by decide +kernel
theorem dX5_both_0 : decode cX5_both 0 = .ok (.aload_n 0, 1) := by decide +kernel
theorem dX5_both_1 : decode cX5_both 1 = .ok (.iload_n 1, 1) := by decide +kernel
theorem dX5_both_2 : decode cX5_both 2 = .ok (.invokevirtual 90, 3) := by decide +kernel
theorem dX5_both_5 : decode cX5_both 5 = .ok (.ifCond .ne 5, 3) := by decide +kernel
theorem dX5_both_8 : decode cX5_both 8 = .ok (.iconst 0, 1) := by decide +kernel
theorem dX5_both_9 : decode cX5_both 9 = .ok (.ireturn, 1) := by decide +kernel
theorem dX5_both_10 : decode cX5_both 10 = .ok (.iconst 0, 1) := by decide +kernel
theorem dX5_both_11 : decode cX5_both 11 = .ok (.istore_n 2, 1) := by decide +kernel
theorem dX5_both_12 : decode cX5_both 12 = .ok (.iload_n 2, 1) := by decide +kernel
theorem dX5_both_13 : decode cX5_both 13 = .ok (.bipush 120, 2) := by decide +kernel
theorem dX5_both_15 : decode cX5_both 15 = .ok (.if_icmp .ge 37, 3) := by decide +kernel
theorem dX5_both_18 : decode cX5_both 18 = .ok (.aload_n 0, 1) := by decide +kernel
theorem dX5_both_19 : decode cX5_both 19 = .ok (.bipush 38, 2) := by decide +kernel
theorem dX5_both_21 : decode cX5_both 21 = .ok (.invokevirtual 43, 3) := by decide +kernel
theorem dX5_both_24 : decode cX5_both 24 = .ok (.ifCond .eq 28, 3) := by decide +kernel
theorem dX5_both_27 : decode cX5_both 27 = .ok (.aload_n 0, 1) := by decide +kernel
theorem dX5_both_28 : decode cX5_both 28 = .ok (.iload_n 1, 1) := by decide +kernel
theorem dX5_both_29 : decode cX5_both 29 = .ok (.invokevirtual 90, 3) := by decide +kernel
theorem dX5_both_32 : decode cX5_both 32 = .ok (.ifCond .ne 5, 3) := by decide +kernel
theorem dX5_both_35 : decode cX5_both 35 = .ok (.iconst 0, 1) := by decide +kernel
theorem dX5_both_36 : decode cX5_both 36 = .ok (.ireturn, 1) := by decide +kernel
theorem dX5_both_37 : decode cX5_both 37 = .ok (.aload_n 0, 1) := by decide +kernel
theorem dX5_both_38 : decode cX5_both 38 = .ok (.getfield 12, 3) := by decide +kernel
theorem dX5_both_41 : decode cX5_both 41 = .ok (.bipush (-2), 2) := by decide +kernel
theorem dX5_both_43 : decode cX5_both 43 = .ok (.invokevirtual 86, 3) := by decide +kernel
theorem dX5_both_46 : decode cX5_both 46 = .ok (.iinc 2 1, 3) := by decide +kernel
theorem dX5_both_49 : decode cX5_both 49 = .ok (.goto (-37), 3) := by decide +kernel
theorem dX5_both_52 : decode cX5_both 52 = .ok (.iconst 1, 1) := by decide +kernel
theorem dX5_both_53 : decode cX5_both 53 = .ok (.ireturn, 1) := by decide +kernel
theorem dX5_factor_0 : decode cX5_factor 0 = .ok (.iload_n 1, 1) := by decide +kernel
theorem dX5_factor_1 : decode cX5_factor 1 = .ok (.istore_n 2, 1) := by decide +kernel
theorem dX5_factor_2 : decode cX5_factor 2 = .ok (.iconst 0, 1) := by decide +kernel
theorem dX5_factor_3 : decode cX5_factor 3 = .ok (.istore_n 3, 1) := by decide +kernel
theorem dX5_factor_4 : decode cX5_factor 4 = .ok (.iload_n 2, 1) := by decide +kernel
theorem dX5_factor_5 : decode cX5_factor 5 = .ok (.iconst 5, 1) := by decide +kernel
theorem dX5_factor_6 : decode cX5_factor 6 = .ok (.if_icmp .ge 28, 3) := by decide +kernel
theorem dX5_factor_9 : decode cX5_factor 9 = .ok (.aload_n 0, 1) := by decide +kernel
theorem dX5_factor_10 : decode cX5_factor 10 = .ok (.bipush 33, 2) := by decide +kernel
theorem dX5_factor_12 : decode cX5_factor 12 = .ok (.invokevirtual 43, 3) := by decide +kernel
theorem dX5_factor_15 : decode cX5_factor 15 = .ok (.ifCond .eq 19, 3) := by decide +kernel
theorem dX5_factor_18 : decode cX5_factor 18 = .ok (.iload_n 3, 1) := by decide +kernel
theorem dX5_factor_19 : decode cX5_factor 19 = .ok (.ifCond .ne 7, 3) := by decide +kernel
theorem dX5_factor_22 : decode cX5_factor 22 = .ok (.iconst 1, 1) := by decide +kernel
theorem dX5_factor_23 : decode cX5_factor 23 = .ok (.goto 4, 3) := by decide +kernel
theorem dX5_factor_26 : decode cX5_factor 26 = .ok (.iconst 0, 1) := by decide +kernel
theorem dX5_factor_27 : decode cX5_factor 27 = .ok (.istore_n 3, 1) := by decide +kernel
theorem dX5_factor_28 : decode cX5_factor 28 = .ok (.iinc 2 1, 3) := by decide +kernel
theorem dX5_factor_31 : decode cX5_factor 31 = .ok (.goto (-27), 3) := by decide +kernel
theorem dX5_factor_34 : decode cX5_factor 34 = .ok (.iload_n 2, 1) := by decide +kernel
theorem dX5_factor_35 : decode cX5_factor 35 = .ok (.iconst 5, 1) := by decide +kernel
theorem dX5_factor_36 : decode cX5_factor 36 = .ok (.if_icmp .ge 33, 3) := by decide +kernel
theorem dX5_factor_39 : decode cX5_factor 39 = .ok (.aload_n 0, 1) := by decide +kernel
theorem dX5_factor_40 : decode cX5_factor 40 = .ok (.bipush 40, 2) := by decide +kernel
theorem dX5_factor_42 : decode cX5_factor 42 = .ok (.invokevirtual 43, 3) := by decide +kernel
theorem dX5_factor_45 : decode cX5_factor 45 = .ok (.ifCond .eq 24, 3) := by decide +kernel
theorem dX5_factor_48 : decode cX5_factor 48 = .ok (.aload_n 0, 1) := by decide +kernel
theorem dX5_factor_49 : decode cX5_factor 49 = .ok (.iload_n 2, 1) := by decide +kernel
theorem dX5_factor_50 : decode cX5_factor 50 = .ok (.iconst 1, 1) := by decide +kernel
theorem dX5_factor_51 : decode cX5_factor 51 = .ok (.iadd, 1) := by decide +kernel
theorem dX5_factor_52 : decode cX5_factor 52 = .ok (.invokevirtual 64, 3) := by decide +kernel
theorem dX5_factor_55 : decode cX5_factor 55 = .ok (.ifCond .eq 12, 3) := by decide +kernel
theorem dX5_factor_58 : decode cX5_factor 58 = .ok (.aload_n 0, 1) := by decide +kernel
theorem dX5_factor_59 : decode cX5_factor 59 = .ok (.bipush 41, 2) := by decide +kernel
theorem dX5_factor_61 : decode cX5_factor 61 = .ok (.invokevirtual 43, 3) := by decide +kernel
theorem dX5_factor_64 : decode cX5_factor 64 = .ok (.ifCond .ne 14, 3) := by decide +kernel
theorem dX5_factor_67 : decode cX5_factor 67 = .ok (.iconst 0, 1) := by decide +kernel
theorem dX5_factor_68 : decode cX5_factor 68 = .ok (.ireturn, 1) := by decide +kernel
theorem dX5_factor_69 : decode cX5_factor 69 = .ok (.aload_n 0, 1) := by decide +kernel
theorem dX5_factor_70 : decode cX5_factor 70 = .ok (.invokevirtual 93, 3) := by decide +kernel
theorem dX5_factor_73 : decode cX5_factor 73 = .ok (.ifCond .ne 5, 3) := by decide +kernel
theorem dX5_factor_76 : decode cX5_factor 76 = .ok (.iconst 0, 1) := by decide +kernel
theorem dX5_factor_77 : decode cX5_factor 77 = .ok (.ireturn, 1) := by decide +kernel
theorem dX5_factor_78 : decode cX5_factor 78 = .ok (.iload_n 3, 1) := by decide +kernel
theorem dX5_factor_79 : decode cX5_factor 79 = .ok (.ifCond .eq 11, 3) := by decide +kernel
theorem dX5_factor_82 : decode cX5_factor 82 = .ok (.aload_n 0, 1) := by decide +kernel
theorem dX5_factor_83 : decode cX5_factor 83 = .ok (.getfield 12, 3) := by decide +kernel
theorem dX5_factor_86 : decode cX5_factor 86 = .ok (.iconst (-1), 1) := by decide +kernel
theorem dX5_factor_87 : decode cX5_factor 87 = .ok (.invokevirtual 86, 3) := by decide +kernel
theorem dX5_factor_90 : decode cX5_factor 90 = .ok (.iconst 1, 1) := by decide +kernel
theorem dX5_factor_91 : decode cX5_factor 91 = .ok (.ireturn, 1) := by decide +kernel
theorem dX5_test_0 : decode cX5_test 0 = .ok (.aload_n 0, 1) := by decide +kernel
theorem dX5_test_1 : decode cX5_test 1 = .ok (.ldc 98, 2) := by decide +kernel
theorem dX5_test_3 : decode cX5_test 3 = .ok (.invokevirtual 100, 3) := by decide +kernel
theorem dX5_test_6 : decode cX5_test 6 = .ok (.istore_n 1, 1) := by decide +kernel
theorem dX5_test_7 : decode cX5_test 7 = .ok (.iload_n 1, 1) := by decide +kernel
theorem dX5_test_8 : decode cX5_test 8 = .ok (.ifCond .ge 5, 3) := by decide +kernel
theorem dX5_test_11 : decode cX5_test 11 = .ok (.iconst 0, 1) := by decide +kernel
theorem dX5_test_12 : decode cX5_test 12 = .ok (.ireturn, 1) := by decide +kernel
theorem dX5_test_13 : decode cX5_test 13 = .ok (.aload_n 0, 1) := by decide +kernel
theorem dX5_test_14 : decode cX5_test 14 = .ok (.ldc 104, 2) := by decide +kernel
theorem dX5_test_16 : decode cX5_test 16 = .ok (.invokevirtual 100, 3) := by decide +kernel
theorem dX5_test_19 : decode cX5_test 19 = .ok (.istore_n 2, 1) := by decide +kernel
theorem dX5_test_20 : decode cX5_test 20 = .ok (.iload_n 2, 1) := by decide +kernel
theorem dX5_test_21 : decode cX5_test 21 = .ok (.ifCond .ge 5, 3) := by decide +kernel
theorem dX5_test_24 : decode cX5_test 24 = .ok (.iconst 0, 1) := by decide +kernel
theorem dX5_test_25 : decode cX5_test 25 = .ok (.ireturn, 1) := by decide +kernel
theorem dX5_test_26 : decode cX5_test 26 = .ok (.aload_n 0, 1) := by decide +kernel
theorem dX5_test_27 : decode cX5_test 27 = .ok (.invokevirtual 58, 3) := by decide +kernel
theorem dX5_test_30 : decode cX5_test 30 = .ok (.istore_n 3, 1) := by decide +kernel
theorem dX5_test_31 : decode cX5_test 31 = .ok (.iload_n 3, 1) := by decide +kernel
theorem dX5_test_32 : decode cX5_test 32 = .ok (.ifCond .ge 5, 3) := by decide +kernel
theorem dX5_test_35 : decode cX5_test 35 = .ok (.iconst 0, 1) := by decide +kernel
theorem dX5_test_36 : decode cX5_test 36 = .ok (.ireturn, 1) := by decide +kernel
theorem dX5_test_37 : decode cX5_test 37 = .ok (.aload_n 0, 1) := by decide +kernel
theorem dX5_test_38 : decode cX5_test 38 = .ok (.getfield 12, 3) := by decide +kernel
theorem dX5_test_41 : decode cX5_test 41 = .ok (.iload_n 1, 1) := by decide +kernel
theorem dX5_test_42 : decode cX5_test 42 = .ok (.iload_n 2, 1) := by decide +kernel
theorem dX5_test_43 : decode cX5_test 43 = .ok (.iload_n 3, 1) := by decide +kernel
theorem dX5_test_44 : decode cX5_test 44 = .ok (.invokestatic 106, 3) := by decide +kernel
theorem dX5_test_47 : decode cX5_test 47 = .ok (.invokevirtual 86, 3) := by decide +kernel
theorem dX5_test_50 : decode cX5_test 50 = .ok (.iconst 1, 1) := by decide +kernel
theorem dX5_test_51 : decode cX5_test 51 = .ok (.ireturn, 1) := by decide +kernel
theorem dX5_oneOf_0 : decode cX5_oneOf 0 = .ok (.aload_n 0, 1) := by decide +kernel
theorem dX5_oneOf_1 : decode cX5_oneOf 1 = .ok (.invokevirtual 51, 3) := by decide +kernel
theorem dX5_oneOf_4 : decode cX5_oneOf 4 = .ok (.istore_n 2, 1) := by decide +kernel
theorem dX5_oneOf_5 : decode cX5_oneOf 5 = .ok (.iconst 0, 1) := by decide +kernel
theorem dX5_oneOf_6 : decode cX5_oneOf 6 = .ok (.istore_n 3, 1) := by decide +kernel
theorem dX5_oneOf_7 : decode cX5_oneOf 7 = .ok (.iload_n 3, 1) := by decide +kernel
theorem dX5_oneOf_8 : decode cX5_oneOf 8 = .ok (.aload_n 1, 1) := by decide +kernel
theorem dX5_oneOf_9 : decode cX5_oneOf 9 = .ok (.invokevirtual 110, 3) := by decide +kernel
theorem dX5_oneOf_12 : decode cX5_oneOf 12 = .ok (.if_icmp .ge 33, 3) := by decide +kernel
theorem dX5_oneOf_15 : decode cX5_oneOf 15 = .ok (.aload_n 1, 1) := by decide +kernel
theorem dX5_oneOf_16 : decode cX5_oneOf 16 = .ok (.iload_n 3, 1) := by decide +kernel
theorem dX5_oneOf_17 : decode cX5_oneOf 17 = .ok (.invokevirtual 74, 3) := by decide +kernel
theorem dX5_oneOf_20 : decode cX5_oneOf 20 = .ok (.iload_n 2, 1) := by decide +kernel
theorem dX5_oneOf_21 : decode cX5_oneOf 21 = .ok (.if_icmp .eq 6, 3) := by decide +kernel
theorem dX5_oneOf_24 : decode cX5_oneOf 24 = .ok (.goto 15, 3) := by decide +kernel
theorem dX5_oneOf_27 : decode cX5_oneOf 27 = .ok (.aload_n 0, 1) := by decide +kernel
theorem dX5_oneOf_28 : decode cX5_oneOf 28 = .ok (.dup, 1) := by decide +kernel
theorem dX5_oneOf_29 : decode cX5_oneOf 29 = .ok (.getfield 25, 3) := by decide +kernel
theorem dX5_oneOf_32 : decode cX5_oneOf 32 = .ok (.iconst 1, 1) := by decide +kernel
theorem dX5_oneOf_33 : decode cX5_oneOf 33 = .ok (.iadd, 1) := by decide +kernel
theorem dX5_oneOf_34 : decode cX5_oneOf 34 = .ok (.putfield 25, 3) := by decide +kernel
theorem dX5_oneOf_37 : decode cX5_oneOf 37 = .ok (.iload_n 3, 1) := by decide +kernel
theorem dX5_oneOf_38 : decode cX5_oneOf 38 = .ok (.ireturn, 1) := by decide +kernel
theorem dX5_oneOf_39 : decode cX5_oneOf 39 = .ok (.iinc 3 1, 3) := by decide +kernel
theorem dX5_oneOf_42 : decode cX5_oneOf 42 = .ok (.goto (-35), 3) := by decide +kernel
theorem dX5_oneOf_45 : decode cX5_oneOf 45 = .ok (.iconst (-1), 1) := by decide +kernel
theorem dX5_oneOf_46 : decode cX5_oneOf 46 = .ok (.ireturn, 1) := by decide +kernel
theorem dX6_init_0 : decode cX6_init 0 = .ok (.aload_n 0, 1) := by decide +kernel
theorem dX6_init_1 : decode cX6_init 1 = .ok (.invokespecial 3, 3) := by decide +kernel
theorem dX6_init_4 : decode cX6_init 4 = .ok (.aload_n 0, 1) := by decide +kernel
theorem dX6_init_5 : decode cX6_init 5 = .ok (.bipush 40, 2) := by decide +kernel
theorem dX6_init_7 : decode cX6_init 7 = .ok (.newarray .int, 2) := by decide +kernel
theorem dX6_init_9 : decode cX6_init 9 = .ok (.putfield 9, 3) := by decide +kernel
theorem dX6_init_12 : decode cX6_init 12 = .ok (.aload_n 0, 1) := by decide +kernel
theorem dX6_init_13 : decode cX6_init 13 = .ok (.sipush 400, 3) := by decide +kernel
theorem dX6_init_16 : decode cX6_init 16 = .ok (.newarray .int, 2) := by decide +kernel
theorem dX6_init_18 : decode cX6_init 18 = .ok (.putfield 15, 3) := by decide +kernel
theorem dX6_init_21 : decode cX6_init 21 = .ok (.aload_n 0, 1) := by decide +kernel
theorem dX6_init_22 : decode cX6_init 22 = .ok (.sipush 400, 3) := by decide +kernel
theorem dX6_init_25 : decode cX6_init 25 = .ok (.newarray .int, 2) := by decide +kernel
theorem dX6_init_27 : decode cX6_init 27 = .ok (.putfield 18, 3) := by decide +kernel
theorem dX6_init_30 : decode cX6_init 30 = .ok (.aload_n 0, 1) := by decide +kernel
theorem dX6_init_31 : decode cX6_init 31 = .ok (.sipush 400, 3) := by decide +kernel
theorem dX6_init_34 : decode cX6_init 34 = .ok (.newarray .int, 2) := by decide +kernel
theorem dX6_init_36 : decode cX6_init 36 = .ok (.putfield 21, 3) := by decide +kernel
theorem dX6_init_39 : decode cX6_init 39 = .ok (.aload_n 0, 1) := by decide +kernel
theorem dX6_init_40 : decode cX6_init 40 = .ok (.bipush 10, 2) := by decide +kernel
theorem dX6_init_42 : decode cX6_init 42 = .ok (.newarray .long, 2) := by decide +kernel
theorem dX6_init_44 : decode cX6_init 44 = .ok (.putfield 24, 3) := by decide +kernel
theorem dX6_init_47 : decode cX6_init 47 = .ok (.aload_n 0, 1) := by decide +kernel
theorem dX6_init_48 : decode cX6_init 48 = .ok (.bipush 16, 2) := by decide +kernel
theorem dX6_init_50 : decode cX6_init 50 = .ok (.newarray .long, 2) := by decide +kernel
theorem dX6_init_52 : decode cX6_init 52 = .ok (.putfield 28, 3) := by decide +kernel
theorem dX6_init_55 : decode cX6_init 55 = .ok (.return_, 1) := by decide +kernel
theorem dX6_lengthOf_0 : decode cX6_lengthOf 0 = .ok (.aload_n 0, 1) := by decide +kernel
theorem dX6_lengthOf_1 : decode cX6_lengthOf 1 = .ok (.getfield 9, 3) := by decide +kernel
theorem dX6_lengthOf_4 : decode cX6_lengthOf 4 = .ok (.iload_n 2, 1) := by decide +kernel
theorem dX6_lengthOf_5 : decode cX6_lengthOf 5 = .ok (.iaload, 1) := by decide +kernel
theorem dX6_lengthOf_6 : decode cX6_lengthOf 6 = .ok (.aload_n 0, 1) := by decide +kernel
theorem dX6_lengthOf_7 : decode cX6_lengthOf 7 = .ok (.getfield 15, 3) := by decide +kernel
theorem dX6_lengthOf_10 : decode cX6_lengthOf 10 = .ok (.iload_n 1, 1) := by decide +kernel
theorem dX6_lengthOf_11 : decode cX6_lengthOf 11 = .ok (.bipush 40, 2) := by decide +kernel
theorem dX6_lengthOf_13 : decode cX6_lengthOf 13 = .ok (.imul, 1) := by decide +kernel
theorem dX6_lengthOf_14 : decode cX6_lengthOf 14 = .ok (.iload_n 2, 1) := by decide +kernel
theorem dX6_lengthOf_15 : decode cX6_lengthOf 15 = .ok (.iadd, 1) := by decide +kernel
theorem dX6_lengthOf_16 : decode cX6_lengthOf 16 = .ok (.iaload, 1) := by decide +kernel
theorem dX6_lengthOf_17 : decode cX6_lengthOf 17 = .ok (.imul, 1) := by decide +kernel
theorem dX6_lengthOf_18 : decode cX6_lengthOf 18 = .ok (.bipush 10, 2) := by decide +kernel
theorem dX6_lengthOf_20 : decode cX6_lengthOf 20 = .ok (.idiv, 1) := by decide +kernel
theorem dX6_lengthOf_21 : decode cX6_lengthOf 21 = .ok (.ireturn, 1) := by decide +kernel
theorem dX6_holdOf_0 : decode cX6_holdOf 0 = .ok (.iconst 1, 1) := by decide +kernel
theorem dX6_holdOf_1 : decode cX6_holdOf 1 = .ok (.aload_n 0, 1) := by decide +kernel
theorem dX6_holdOf_2 : decode cX6_holdOf 2 = .ok (.getfield 18, 3) := by decide +kernel
theorem dX6_holdOf_5 : decode cX6_holdOf 5 = .ok (.iload_n 1, 1) := by decide +kernel
theorem dX6_holdOf_6 : decode cX6_holdOf 6 = .ok (.bipush 40, 2) := by decide +kernel
theorem dX6_holdOf_8 : decode cX6_holdOf 8 = .ok (.imul, 1) := by decide +kernel
theorem dX6_holdOf_9 : decode cX6_holdOf 9 = .ok (.iload_n 2, 1) := by decide +kernel
theorem dX6_holdOf_10 : decode cX6_holdOf 10 = .ok (.iadd, 1) := by decide +kernel
theorem dX6_holdOf_11 : decode cX6_holdOf 11 = .ok (.iaload, 1) := by decide +kernel
theorem dX6_holdOf_12 : decode cX6_holdOf 12 = .ok (.invokestatic 31, 3) := by decide +kernel
theorem dX6_holdOf_15 : decode cX6_holdOf 15 = .ok (.ireturn, 1) := by decide +kernel
theorem dX6_knocksOf_0 : decode cX6_knocksOf 0 = .ok (.aload_n 0, 1) := by decide +kernel
theorem dX6_knocksOf_1 : decode cX6_knocksOf 1 = .ok (.getfield 21, 3) := by decide +kernel
theorem dX6_knocksOf_4 : decode cX6_knocksOf 4 = .ok (.iload_n 1, 1) := by decide +kernel
theorem dX6_knocksOf_5 : decode cX6_knocksOf 5 = .ok (.bipush 40, 2) := by decide +kernel
theorem dX6_knocksOf_7 : decode cX6_knocksOf 7 = .ok (.imul, 1) := by decide +kernel
theorem dX6_knocksOf_8 : decode cX6_knocksOf 8 = .ok (.iload_n 2, 1) := by decide +kernel
theorem dX6_knocksOf_9 : decode cX6_knocksOf 9 = .ok (.iadd, 1) := by decide +kernel
theorem dX6_knocksOf_10 : decode cX6_knocksOf 10 = .ok (.iaload, 1) := by decide +kernel
theorem dX6_knocksOf_11 : decode cX6_knocksOf 11 = .ok (.ireturn, 1) := by decide +kernel
theorem dX6_knockingOf_0 : decode cX6_knockingOf 0 = .ok (.lconst 0, 1) := by decide +kernel
theorem dX6_knockingOf_1 : decode cX6_knockingOf 1 = .ok (.lstore_n 2, 1) := by decide +kernel
theorem dX6_knockingOf_2 : decode cX6_knockingOf 2 = .ok (.iconst 0, 1) := by decide +kernel
theorem dX6_knockingOf_3 : decode cX6_knockingOf 3 = .ok (.istore 4, 2) := by decide +kernel
theorem dX6_knockingOf_5 : decode cX6_knockingOf 5 = .ok (.iload 4, 2) := by decide +kernel
theorem dX6_knockingOf_7 : decode cX6_knockingOf 7 = .ok (.bipush 40, 2) := by decide +kernel
theorem dX6_knockingOf_9 : decode cX6_knockingOf 9 = .ok (.if_icmp .ge 26, 3) := by decide +kernel
theorem dX6_knockingOf_12 : decode cX6_knockingOf 12 = .ok (.aload_n 0, 1) := by decide +kernel
theorem dX6_knockingOf_13 : decode cX6_knockingOf 13 = .ok (.iload_n 1, 1) := by decide +kernel
theorem dX6_knockingOf_14 : decode cX6_knockingOf 14 = .ok (.iload 4, 2) := by decide +kernel
theorem dX6_knockingOf_16 : decode cX6_knockingOf 16 = .ok (.invokevirtual 37, 3) := by decide +kernel
theorem dX6_knockingOf_19 : decode cX6_knockingOf 19 = .ok (.ifCond .le 10, 3) := by decide +kernel
theorem dX6_knockingOf_22 : decode cX6_knockingOf 22 = .ok (.lload_n 2, 1) := by decide +kernel
theorem dX6_knockingOf_23 : decode cX6_knockingOf 23 = .ok (.lconst 1, 1) := by decide +kernel
theorem dX6_knockingOf_24 : decode cX6_knockingOf 24 = .ok (.iload 4, 2) := by decide +kernel
theorem dX6_knockingOf_26 : decode cX6_knockingOf 26 = .ok (.lshl, 1) := by decide +kernel
theorem dX6_knockingOf_27 : decode cX6_knockingOf 27 = .ok (.lor, 1) := by decide +kernel
theorem dX6_knockingOf_28 : decode cX6_knockingOf 28 = .ok (.lstore_n 2, 1) := by decide +kernel
theorem dX6_knockingOf_29 : decode cX6_knockingOf 29 = .ok (.iinc 4 1, 3) := by decide +kernel
theorem dX6_knockingOf_32 : decode cX6_knockingOf 32 = .ok (.goto (-27), 3) := by decide +kernel
theorem dX6_knockingOf_35 : decode cX6_knockingOf 35 = .ok (.lload_n 2, 1) := by decide +kernel
theorem dX6_knockingOf_36 : decode cX6_knockingOf 36 = .ok (.lreturn, 1) := by decide +kernel
theorem dX6_read_0 : decode cX6_read 0 = .ok (.iconst 0, 1) := by decide +kernel
theorem dX6_read_1 : decode cX6_read 1 = .ok (.istore 4, 2) := by decide +kernel
theorem dX6_read_3 : decode cX6_read 3 = .ok (.iload 4, 2) := by decide +kernel
theorem dX6_read_5 : decode cX6_read 5 = .ok (.bipush 40, 2) := by decide +kernel
theorem dX6_read_7 : decode cX6_read 7 = .ok (.if_icmp .ge 35, 3) := by decide +kernel
theorem dX6_read_10 : decode cX6_read 10 = .ok (.aload_n 0, 1) := by decide +kernel
theorem dX6_read_11 : decode cX6_read 11 = .ok (.getfield 15, 3) := by decide +kernel
theorem dX6_read_14 : decode cX6_read 14 = .ok (.iload_n 3, 1) := by decide +kernel
theorem dX6_read_15 : decode cX6_read 15 = .ok (.bipush 40, 2) := by decide +kernel
theorem dX6_read_17 : decode cX6_read 17 = .ok (.imul, 1) := by decide +kernel
theorem dX6_read_18 : decode cX6_read 18 = .ok (.iload 4, 2) := by decide +kernel
theorem dX6_read_20 : decode cX6_read 20 = .ok (.iadd, 1) := by decide +kernel
theorem dX6_read_21 : decode cX6_read 21 = .ok (.iconst 0, 1) := by decide +kernel
theorem dX6_read_22 : decode cX6_read 22 = .ok (.iastore, 1) := by decide +kernel
theorem dX6_read_23 : decode cX6_read 23 = .ok (.aload_n 0, 1) := by decide +kernel
theorem dX6_read_24 : decode cX6_read 24 = .ok (.getfield 18, 3) := by decide +kernel
theorem dX6_read_27 : decode cX6_read 27 = .ok (.iload_n 3, 1) := by decide +kernel
theorem dX6_read_28 : decode cX6_read 28 = .ok (.bipush 40, 2) := by decide +kernel
theorem dX6_read_30 : decode cX6_read 30 = .ok (.imul, 1) := by decide +kernel
theorem dX6_read_31 : decode cX6_read 31 = .ok (.iload 4, 2) := by decide +kernel
theorem dX6_read_33 : decode cX6_read 33 = .ok (.iadd, 1) := by decide +kernel
theorem dX6_read_34 : decode cX6_read 34 = .ok (.iconst 0, 1) := by decide +kernel
theorem dX6_read_35 : decode cX6_read 35 = .ok (.iastore, 1) := by decide +kernel
theorem dX6_read_36 : decode cX6_read 36 = .ok (.iinc 4 1, 3) := by decide +kernel
theorem dX6_read_39 : decode cX6_read 39 = .ok (.goto (-36), 3) := by decide +kernel
theorem dX6_read_42 : decode cX6_read 42 = .ok (.aload_n 0, 1) := by decide +kernel
theorem dX6_read_43 : decode cX6_read 43 = .ok (.getfield 24, 3) := by decide +kernel
theorem dX6_read_46 : decode cX6_read 46 = .ok (.iload_n 3, 1) := by decide +kernel
theorem dX6_read_47 : decode cX6_read 47 = .ok (.ldc2_w 40, 3) := by decide +kernel
theorem dX6_read_50 : decode cX6_read 50 = .ok (.lastore, 1) := by decide +kernel
theorem dX6_read_51 : decode cX6_read 51 = .ok (.iconst 0, 1) := by decide +kernel
theorem dX6_read_52 : decode cX6_read 52 = .ok (.istore 4, 2) := by decide +kernel
theorem dX6_read_54 : decode cX6_read 54 = .ok (.iconst 0, 1) := by decide +kernel
theorem dX6_read_55 : decode cX6_read 55 = .ok (.istore 5, 2) := by decide +kernel
theorem dX6_read_57 : decode cX6_read 57 = .ok (.iload 5, 2) := by decide +kernel
theorem dX6_read_59 : decode cX6_read 59 = .ok (.aload_n 1, 1) := by decide +kernel
theorem dX6_read_60 : decode cX6_read 60 = .ok (.getfield 42, 3) := by decide +kernel
theorem dX6_read_63 : decode cX6_read 63 = .ok (.if_icmp .ge 85, 3) := by decide +kernel
theorem dX6_read_66 : decode cX6_read 66 = .ok (.aload_n 0, 1) := by decide +kernel
theorem dX6_read_67 : decode cX6_read 67 = .ok (.aload_n 1, 1) := by decide +kernel
theorem dX6_read_68 : decode cX6_read 68 = .ok (.iload 4, 2) := by decide +kernel
theorem dX6_read_70 : decode cX6_read 70 = .ok (.aload_n 1, 1) := by decide +kernel
theorem dX6_read_71 : decode cX6_read 71 = .ok (.getfield 48, 3) := by decide +kernel
theorem dX6_read_74 : decode cX6_read 74 = .ok (.iload 5, 2) := by decide +kernel
theorem dX6_read_76 : decode cX6_read 76 = .ok (.iaload, 1) := by decide +kernel
theorem dX6_read_77 : decode cX6_read 77 = .ok (.aload_n 2, 1) := by decide +kernel
theorem dX6_read_78 : decode cX6_read 78 = .ok (.iload_n 3, 1) := by decide +kernel
theorem dX6_read_79 : decode cX6_read 79 = .ok (.invokevirtual 51, 3) := by decide +kernel
theorem dX6_read_82 : decode cX6_read 82 = .ok (.lstore 6, 2) := by decide +kernel
theorem dX6_read_84 : decode cX6_read 84 = .ok (.aload_n 0, 1) := by decide +kernel
theorem dX6_read_85 : decode cX6_read 85 = .ok (.getfield 24, 3) := by decide +kernel
theorem dX6_read_88 : decode cX6_read 88 = .ok (.iload_n 3, 1) := by decide +kernel
theorem dX6_read_89 : decode cX6_read 89 = .ok (.dup2, 1) := by decide +kernel
theorem dX6_read_90 : decode cX6_read 90 = .ok (.laload, 1) := by decide +kernel
theorem dX6_read_91 : decode cX6_read 91 = .ok (.lload 6, 2) := by decide +kernel
theorem dX6_read_93 : decode cX6_read 93 = .ok (.ldc2_w 55, 3) := by decide +kernel
theorem dX6_read_96 : decode cX6_read 96 = .ok (.lxor, 1) := by decide +kernel
theorem dX6_read_97 : decode cX6_read 97 = .ok (.land, 1) := by decide +kernel
theorem dX6_read_98 : decode cX6_read 98 = .ok (.lastore, 1) := by decide +kernel
theorem dX6_read_99 : decode cX6_read 99 = .ok (.aload_n 1, 1) := by decide +kernel
theorem dX6_read_100 : decode cX6_read 100 = .ok (.getfield 57, 3) := by decide +kernel
theorem dX6_read_103 : decode cX6_read 103 = .ok (.iload 5, 2) := by decide +kernel
theorem dX6_read_105 : decode cX6_read 105 = .ok (.baload, 1) := by decide +kernel
theorem dX6_read_106 : decode cX6_read 106 = .ok (.ifCond .eq 10, 3) := by decide +kernel
theorem dX6_read_109 : decode cX6_read 109 = .ok (.aload_n 0, 1) := by decide +kernel
theorem dX6_read_110 : decode cX6_read 110 = .ok (.getfield 15, 3) := by decide +kernel
theorem dX6_read_113 : decode cX6_read 113 = .ok (.goto 7, 3) := by decide +kernel
theorem dX6_read_116 : decode cX6_read 116 = .ok (.aload_n 0, 1) := by decide +kernel
theorem dX6_read_117 : decode cX6_read 117 = .ok (.getfield 18, 3) := by decide +kernel
theorem dX6_read_120 : decode cX6_read 120 = .ok (.iload_n 3, 1) := by decide +kernel
theorem dX6_read_121 : decode cX6_read 121 = .ok (.lload 6, 2) := by decide +kernel
theorem dX6_read_123 : decode cX6_read 123 = .ok (.aload_n 1, 1) := by decide +kernel
theorem dX6_read_124 : decode cX6_read 124 = .ok (.getfield 61, 3) := by decide +kernel
theorem dX6_read_127 : decode cX6_read 127 = .ok (.iload 5, 2) := by decide +kernel
theorem dX6_read_129 : decode cX6_read 129 = .ok (.iaload, 1) := by decide +kernel
theorem dX6_read_130 : decode cX6_read 130 = .ok (.invokestatic 64, 3) := by decide +kernel
theorem dX6_read_133 : decode cX6_read 133 = .ok (.aload_n 1, 1) := by decide +kernel
theorem dX6_read_134 : decode cX6_read 134 = .ok (.getfield 48, 3) := by decide +kernel
theorem dX6_read_137 : decode cX6_read 137 = .ok (.iload 5, 2) := by decide +kernel
theorem dX6_read_139 : decode cX6_read 139 = .ok (.iaload, 1) := by decide +kernel
theorem dX6_read_140 : decode cX6_read 140 = .ok (.istore 4, 2) := by decide +kernel
theorem dX6_read_142 : decode cX6_read 142 = .ok (.iinc 5 1, 3) := by decide +kernel
theorem dX6_read_145 : decode cX6_read 145 = .ok (.goto (-88), 3) := by decide +kernel
theorem dX6_read_148 : decode cX6_read 148 = .ok (.return_, 1) := by decide +kernel
theorem dX6_addTo_0 : decode cX6_addTo 0 = .ok (.iconst 0, 1) := by decide +kernel
theorem dX6_addTo_1 : decode cX6_addTo 1 = .ok (.istore 5, 2) := by decide +kernel
theorem dX6_addTo_3 : decode cX6_addTo 3 = .ok (.iload 5, 2) := by decide +kernel
theorem dX6_addTo_5 : decode cX6_addTo 5 = .ok (.bipush 40, 2) := by decide +kernel
theorem dX6_addTo_7 : decode cX6_addTo 7 = .ok (.if_icmp .ge 34, 3) := by decide +kernel
theorem dX6_addTo_10 : decode cX6_addTo 10 = .ok (.lload_n 2, 1) := by decide +kernel
theorem dX6_addTo_11 : decode cX6_addTo 11 = .ok (.iload 5, 2) := by decide +kernel
theorem dX6_addTo_13 : decode cX6_addTo 13 = .ok (.lshr, 1) := by decide +kernel
theorem dX6_addTo_14 : decode cX6_addTo 14 = .ok (.lconst 1, 1) := by decide +kernel
theorem dX6_addTo_15 : decode cX6_addTo 15 = .ok (.land, 1) := by decide +kernel
theorem dX6_addTo_16 : decode cX6_addTo 16 = .ok (.lconst 0, 1) := by decide +kernel
theorem dX6_addTo_17 : decode cX6_addTo 17 = .ok (.lcmp, 1) := by decide +kernel
theorem dX6_addTo_18 : decode cX6_addTo 18 = .ok (.ifCond .eq 17, 3) := by decide +kernel
theorem dX6_addTo_21 : decode cX6_addTo 21 = .ok (.aload_n 0, 1) := by decide +kernel
theorem dX6_addTo_22 : decode cX6_addTo 22 = .ok (.iload_n 1, 1) := by decide +kernel
theorem dX6_addTo_23 : decode cX6_addTo 23 = .ok (.bipush 40, 2) := by decide +kernel
theorem dX6_addTo_25 : decode cX6_addTo 25 = .ok (.imul, 1) := by decide +kernel
theorem dX6_addTo_26 : decode cX6_addTo 26 = .ok (.iload 5, 2) := by decide +kernel
theorem dX6_addTo_28 : decode cX6_addTo 28 = .ok (.iadd, 1) := by decide +kernel
theorem dX6_addTo_29 : decode cX6_addTo 29 = .ok (.dup2, 1) := by decide +kernel
theorem dX6_addTo_30 : decode cX6_addTo 30 = .ok (.iaload, 1) := by decide +kernel
theorem dX6_addTo_31 : decode cX6_addTo 31 = .ok (.iload 4, 2) := by decide +kernel
theorem dX6_addTo_33 : decode cX6_addTo 33 = .ok (.iadd, 1) := by decide +kernel
theorem dX6_addTo_34 : decode cX6_addTo 34 = .ok (.iastore, 1) := by decide +kernel
theorem dX6_addTo_35 : decode cX6_addTo 35 = .ok (.iinc 5 1, 3) := by decide +kernel
theorem dX6_addTo_38 : decode cX6_addTo 38 = .ok (.goto (-35), 3) := by decide +kernel
theorem dX6_addTo_41 : decode cX6_addTo 41 = .ok (.return_, 1) := by decide +kernel
theorem dX6_holds_0 : decode cX6_holds 0 = .ok (.iconst 0, 1) := by decide +kernel
theorem dX6_holds_1 : decode cX6_holds 1 = .ok (.istore 6, 2) := by decide +kernel
theorem dX6_holds_3 : decode cX6_holds 3 = .ok (.iload_n 2, 1) := by decide +kernel
theorem dX6_holds_4 : decode cX6_holds 4 = .ok (.istore 7, 2) := by decide +kernel
theorem dX6_holds_6 : decode cX6_holds 6 = .ok (.iload 7, 2) := by decide +kernel
theorem dX6_holds_8 : decode cX6_holds 8 = .ok (.iload_n 3, 1) := by decide +kernel
theorem dX6_holds_9 : decode cX6_holds 9 = .ok (.if_icmp .ge 152, 3) := by decide +kernel
theorem dX6_holds_12 : decode cX6_holds 12 = .ok (.iload 7, 2) := by decide +kernel
theorem dX6_holds_14 : decode cX6_holds 14 = .ok (.bipush 120, 2) := by decide +kernel
theorem dX6_holds_16 : decode cX6_holds 16 = .ok (.if_icmp .ge 145, 3) := by decide +kernel
theorem dX6_holds_19 : decode cX6_holds 19 = .ok (.aload_n 1, 1) := by decide +kernel
theorem dX6_holds_20 : decode cX6_holds 20 = .ok (.getfield 68, 3) := by decide +kernel
theorem dX6_holds_23 : decode cX6_holds 23 = .ok (.iload 7, 2) := by decide +kernel
theorem dX6_holds_25 : decode cX6_holds 25 = .ok (.iaload, 1) := by decide +kernel
theorem dX6_holds_26 : decode cX6_holds 26 = .ok (.istore 8, 2) := by decide +kernel
theorem dX6_holds_28 : decode cX6_holds 28 = .ok (.iload 8, 2) := by decide +kernel
theorem dX6_holds_30 : decode cX6_holds 30 = .ok (.ifCond .lt 34, 3) := by decide +kernel
theorem dX6_holds_33 : decode cX6_holds 33 = .ok (.iload 6, 2) := by decide +kernel
theorem dX6_holds_35 : decode cX6_holds 35 = .ok (.bipush 16, 2) := by decide +kernel
theorem dX6_holds_37 : decode cX6_holds 37 = .ok (.if_icmp .lt 5, 3) := by decide +kernel
theorem dX6_holds_40 : decode cX6_holds 40 = .ok (.lconst 0, 1) := by decide +kernel
theorem dX6_holds_41 : decode cX6_holds 41 = .ok (.lreturn, 1) := by decide +kernel
theorem dX6_holds_42 : decode cX6_holds 42 = .ok (.aload_n 0, 1) := by decide +kernel
theorem dX6_holds_43 : decode cX6_holds 43 = .ok (.getfield 28, 3) := by decide +kernel
theorem dX6_holds_46 : decode cX6_holds 46 = .ok (.iload 6, 2) := by decide +kernel
theorem dX6_holds_48 : decode cX6_holds 48 = .ok (.iload 8, 2) := by decide +kernel
theorem dX6_holds_50 : decode cX6_holds 50 = .ok (.aload 4, 2) := by decide +kernel
theorem dX6_holds_52 : decode cX6_holds 52 = .ok (.iload 5, 2) := by decide +kernel
theorem dX6_holds_54 : decode cX6_holds 54 = .ok (.invokestatic 71, 3) := by decide +kernel
theorem dX6_holds_57 : decode cX6_holds 57 = .ok (.lastore, 1) := by decide +kernel
theorem dX6_holds_58 : decode cX6_holds 58 = .ok (.iinc 6 1, 3) := by decide +kernel
theorem dX6_holds_61 : decode cX6_holds 61 = .ok (.goto 94, 3) := by decide +kernel
theorem dX6_holds_64 : decode cX6_holds 64 = .ok (.iload 8, 2) := by decide +kernel
theorem dX6_holds_66 : decode cX6_holds 66 = .ok (.iconst (-1), 1) := by decide +kernel
theorem dX6_holds_67 : decode cX6_holds 67 = .ok (.if_icmp .ne 29, 3) := by decide +kernel
theorem dX6_holds_70 : decode cX6_holds 70 = .ok (.iload 6, 2) := by decide +kernel
theorem dX6_holds_72 : decode cX6_holds 72 = .ok (.iconst 1, 1) := by decide +kernel
theorem dX6_holds_73 : decode cX6_holds 73 = .ok (.if_icmp .ge 5, 3) := by decide +kernel
theorem dX6_holds_76 : decode cX6_holds 76 = .ok (.lconst 0, 1) := by decide +kernel
theorem dX6_holds_77 : decode cX6_holds 77 = .ok (.lreturn, 1) := by decide +kernel
theorem dX6_holds_78 : decode cX6_holds 78 = .ok (.aload_n 0, 1) := by decide +kernel
theorem dX6_holds_79 : decode cX6_holds 79 = .ok (.getfield 28, 3) := by decide +kernel
theorem dX6_holds_82 : decode cX6_holds 82 = .ok (.iload 6, 2) := by decide +kernel
theorem dX6_holds_84 : decode cX6_holds 84 = .ok (.iconst 1, 1) := by decide +kernel
theorem dX6_holds_85 : decode cX6_holds 85 = .ok (.isub, 1) := by decide +kernel
theorem dX6_holds_86 : decode cX6_holds 86 = .ok (.dup2, 1) := by decide +kernel
theorem dX6_holds_87 : decode cX6_holds 87 = .ok (.laload, 1) := by decide +kernel
theorem dX6_holds_88 : decode cX6_holds 88 = .ok (.ldc2_w 40, 3) := by decide +kernel
theorem dX6_holds_91 : decode cX6_holds 91 = .ok (.lxor, 1) := by decide +kernel
theorem dX6_holds_92 : decode cX6_holds 92 = .ok (.lastore, 1) := by decide +kernel
theorem dX6_holds_93 : decode cX6_holds 93 = .ok (.goto 62, 3) := by decide +kernel
theorem dX6_holds_96 : decode cX6_holds 96 = .ok (.iload 6, 2) := by decide +kernel
theorem dX6_holds_98 : decode cX6_holds 98 = .ok (.iconst 2, 1) := by decide +kernel
theorem dX6_holds_99 : decode cX6_holds 99 = .ok (.if_icmp .ge 5, 3) := by decide +kernel
theorem dX6_holds_102 : decode cX6_holds 102 = .ok (.lconst 0, 1) := by decide +kernel
theorem dX6_holds_103 : decode cX6_holds 103 = .ok (.lreturn, 1) := by decide +kernel
theorem dX6_holds_104 : decode cX6_holds 104 = .ok (.iinc 6 (-1), 3) := by decide +kernel
theorem dX6_holds_107 : decode cX6_holds 107 = .ok (.iload 8, 2) := by decide +kernel
theorem dX6_holds_109 : decode cX6_holds 109 = .ok (.bipush (-2), 2) := by decide +kernel
theorem dX6_holds_111 : decode cX6_holds 111 = .ok (.if_icmp .ne 25, 3) := by decide +kernel
theorem dX6_holds_114 : decode cX6_holds 114 = .ok (.aload_n 0, 1) := by decide +kernel
theorem dX6_holds_115 : decode cX6_holds 115 = .ok (.getfield 28, 3) := by decide +kernel
theorem dX6_holds_118 : decode cX6_holds 118 = .ok (.iload 6, 2) := by decide +kernel
theorem dX6_holds_120 : decode cX6_holds 120 = .ok (.iconst 1, 1) := by decide +kernel
theorem dX6_holds_121 : decode cX6_holds 121 = .ok (.isub, 1) := by decide +kernel
theorem dX6_holds_122 : decode cX6_holds 122 = .ok (.dup2, 1) := by decide +kernel
theorem dX6_holds_123 : decode cX6_holds 123 = .ok (.laload, 1) := by decide +kernel
theorem dX6_holds_124 : decode cX6_holds 124 = .ok (.aload_n 0, 1) := by decide +kernel
theorem dX6_holds_125 : decode cX6_holds 125 = .ok (.getfield 28, 3) := by decide +kernel
theorem dX6_holds_128 : decode cX6_holds 128 = .ok (.iload 6, 2) := by decide +kernel
theorem dX6_holds_130 : decode cX6_holds 130 = .ok (.laload, 1) := by decide +kernel
theorem dX6_holds_131 : decode cX6_holds 131 = .ok (.land, 1) := by decide +kernel
theorem dX6_holds_132 : decode cX6_holds 132 = .ok (.lastore, 1) := by decide +kernel
theorem dX6_holds_133 : decode cX6_holds 133 = .ok (.goto 22, 3) := by decide +kernel
theorem dX6_holds_136 : decode cX6_holds 136 = .ok (.aload_n 0, 1) := by decide +kernel
theorem dX6_holds_137 : decode cX6_holds 137 = .ok (.getfield 28, 3) := by decide +kernel
theorem dX6_holds_140 : decode cX6_holds 140 = .ok (.iload 6, 2) := by decide +kernel
theorem dX6_holds_142 : decode cX6_holds 142 = .ok (.iconst 1, 1) := by decide +kernel
theorem dX6_holds_143 : decode cX6_holds 143 = .ok (.isub, 1) := by decide +kernel
theorem dX6_holds_144 : decode cX6_holds 144 = .ok (.dup2, 1) := by decide +kernel
theorem dX6_holds_145 : decode cX6_holds 145 = .ok (.laload, 1) := by decide +kernel
theorem dX6_holds_146 : decode cX6_holds 146 = .ok (.aload_n 0, 1) := by decide +kernel
theorem dX6_holds_147 : decode cX6_holds 147 = .ok (.getfield 28, 3) := by decide +kernel
theorem dX6_holds_150 : decode cX6_holds 150 = .ok (.iload 6, 2) := by decide +kernel
theorem dX6_holds_152 : decode cX6_holds 152 = .ok (.laload, 1) := by decide +kernel
theorem dX6_holds_153 : decode cX6_holds 153 = .ok (.lor, 1) := by decide +kernel
theorem dX6_holds_154 : decode cX6_holds 154 = .ok (.lastore, 1) := by decide +kernel
theorem dX6_holds_155 : decode cX6_holds 155 = .ok (.iinc 7 1, 3) := by decide +kernel
theorem dX6_holds_158 : decode cX6_holds 158 = .ok (.goto (-152), 3) := by decide +kernel
theorem dX6_holds_161 : decode cX6_holds 161 = .ok (.iload 6, 2) := by decide +kernel
theorem dX6_holds_163 : decode cX6_holds 163 = .ok (.iconst 1, 1) := by decide +kernel
theorem dX6_holds_164 : decode cX6_holds 164 = .ok (.if_icmp .ne 12, 3) := by decide +kernel
theorem dX6_holds_167 : decode cX6_holds 167 = .ok (.aload_n 0, 1) := by decide +kernel
theorem dX6_holds_168 : decode cX6_holds 168 = .ok (.getfield 28, 3) := by decide +kernel
theorem dX6_holds_171 : decode cX6_holds 171 = .ok (.iconst 0, 1) := by decide +kernel
theorem dX6_holds_172 : decode cX6_holds 172 = .ok (.laload, 1) := by decide +kernel
theorem dX6_holds_173 : decode cX6_holds 173 = .ok (.goto 4, 3) := by decide +kernel
theorem dX6_holds_176 : decode cX6_holds 176 = .ok (.lconst 0, 1) := by decide +kernel
theorem dX6_holds_177 : decode cX6_holds 177 = .ok (.lreturn, 1) := by decide +kernel
theorem dX6_minutesOf_0 : decode cX6_minutesOf 0 = .ok (.iload_n 0, 1) := by decide +kernel
theorem dX6_minutesOf_1 : decode cX6_minutesOf 1 = .ok (.invokestatic 75, 3) := by decide +kernel
theorem dX6_minutesOf_4 : decode cX6_minutesOf 4 = .ok (.tableswitch 67 0 3 #[32, 37, 47, 57], 32) := by decide +kernel
theorem dX6_minutesOf_36 : decode cX6_minutesOf 36 = .ok (.iload_n 2, 1) := by decide +kernel
theorem dX6_minutesOf_37 : decode cX6_minutesOf 37 = .ok (.istore_n 3, 1) := by decide +kernel
theorem dX6_minutesOf_38 : decode cX6_minutesOf 38 = .ok (.goto 38, 3) := by decide +kernel
theorem dX6_minutesOf_41 : decode cX6_minutesOf 41 = .ok (.aload_n 1, 1) := by decide +kernel
theorem dX6_minutesOf_42 : decode cX6_minutesOf 42 = .ok (.getfield 81, 3) := by decide +kernel
theorem dX6_minutesOf_45 : decode cX6_minutesOf 45 = .ok (.iload_n 2, 1) := by decide +kernel
theorem dX6_minutesOf_46 : decode cX6_minutesOf 46 = .ok (.iaload, 1) := by decide +kernel
theorem dX6_minutesOf_47 : decode cX6_minutesOf 47 = .ok (.istore_n 3, 1) := by decide +kernel
theorem dX6_minutesOf_48 : decode cX6_minutesOf 48 = .ok (.goto 28, 3) := by decide +kernel
theorem dX6_minutesOf_51 : decode cX6_minutesOf 51 = .ok (.aload_n 1, 1) := by decide +kernel
theorem dX6_minutesOf_52 : decode cX6_minutesOf 52 = .ok (.getfield 86, 3) := by decide +kernel
theorem dX6_minutesOf_55 : decode cX6_minutesOf 55 = .ok (.iload_n 2, 1) := by decide +kernel
theorem dX6_minutesOf_56 : decode cX6_minutesOf 56 = .ok (.iaload, 1) := by decide +kernel
theorem dX6_minutesOf_57 : decode cX6_minutesOf 57 = .ok (.istore_n 3, 1) := by decide +kernel
theorem dX6_minutesOf_58 : decode cX6_minutesOf 58 = .ok (.goto 18, 3) := by decide +kernel
theorem dX6_minutesOf_61 : decode cX6_minutesOf 61 = .ok (.aload_n 1, 1) := by decide +kernel
theorem dX6_minutesOf_62 : decode cX6_minutesOf 62 = .ok (.getfield 89, 3) := by decide +kernel
theorem dX6_minutesOf_65 : decode cX6_minutesOf 65 = .ok (.iload_n 2, 1) := by decide +kernel
theorem dX6_minutesOf_66 : decode cX6_minutesOf 66 = .ok (.iaload, 1) := by decide +kernel
theorem dX6_minutesOf_67 : decode cX6_minutesOf 67 = .ok (.istore_n 3, 1) := by decide +kernel
theorem dX6_minutesOf_68 : decode cX6_minutesOf 68 = .ok (.goto 8, 3) := by decide +kernel
theorem dX6_minutesOf_71 : decode cX6_minutesOf 71 = .ok (.iload_n 0, 1) := by decide +kernel
theorem dX6_minutesOf_72 : decode cX6_minutesOf 72 = .ok (.invokestatic 92, 3) := by decide +kernel
theorem dX6_minutesOf_75 : decode cX6_minutesOf 75 = .ok (.lreturn, 1) := by decide +kernel
theorem dX6_minutesOf_76 : decode cX6_minutesOf 76 = .ok (.iload_n 0, 1) := by decide +kernel
theorem dX6_minutesOf_77 : decode cX6_minutesOf 77 = .ok (.iload_n 3, 1) := by decide +kernel
theorem dX6_minutesOf_78 : decode cX6_minutesOf 78 = .ok (.invokestatic 96, 3) := by decide +kernel
theorem dX6_minutesOf_81 : decode cX6_minutesOf 81 = .ok (.ifCond .eq 9, 3) := by decide +kernel
theorem dX6_minutesOf_84 : decode cX6_minutesOf 84 = .ok (.ldc2_w 40, 3) := by decide +kernel
theorem dX6_minutesOf_87 : decode cX6_minutesOf 87 = .ok (.goto 4, 3) := by decide +kernel
theorem dX6_minutesOf_90 : decode cX6_minutesOf 90 = .ok (.lconst 0, 1) := by decide +kernel
theorem dX6_minutesOf_91 : decode cX6_minutesOf 91 = .ok (.lreturn, 1) := by decide +kernel
theorem dX6_warm_0 : decode cX6_warm 0 = .ok (.iconst 0, 1) := by decide +kernel
theorem dX6_warm_1 : decode cX6_warm 1 = .ok (.istore 4, 2) := by decide +kernel
theorem dX6_warm_3 : decode cX6_warm 3 = .ok (.iconst 0, 1) := by decide +kernel
theorem dX6_warm_4 : decode cX6_warm 4 = .ok (.istore 5, 2) := by decide +kernel
theorem dX6_warm_6 : decode cX6_warm 6 = .ok (.iload 5, 2) := by decide +kernel
theorem dX6_warm_8 : decode cX6_warm 8 = .ok (.bipush 40, 2) := by decide +kernel
theorem dX6_warm_10 : decode cX6_warm 10 = .ok (.if_icmp .ge 77, 3) := by decide +kernel
theorem dX6_warm_13 : decode cX6_warm 13 = .ok (.lload_n 2, 1) := by decide +kernel
theorem dX6_warm_14 : decode cX6_warm 14 = .ok (.iload 5, 2) := by decide +kernel
theorem dX6_warm_16 : decode cX6_warm 16 = .ok (.lshr, 1) := by decide +kernel
theorem dX6_warm_17 : decode cX6_warm 17 = .ok (.lconst 1, 1) := by decide +kernel
theorem dX6_warm_18 : decode cX6_warm 18 = .ok (.land, 1) := by decide +kernel
theorem dX6_warm_19 : decode cX6_warm 19 = .ok (.lconst 0, 1) := by decide +kernel
theorem dX6_warm_20 : decode cX6_warm 20 = .ok (.lcmp, 1) := by decide +kernel
theorem dX6_warm_21 : decode cX6_warm 21 = .ok (.ifCond .eq 7, 3) := by decide +kernel
theorem dX6_warm_24 : decode cX6_warm 24 = .ok (.iconst 1, 1) := by decide +kernel
theorem dX6_warm_25 : decode cX6_warm 25 = .ok (.goto 4, 3) := by decide +kernel
theorem dX6_warm_28 : decode cX6_warm 28 = .ok (.iconst 0, 1) := by decide +kernel
theorem dX6_warm_29 : decode cX6_warm 29 = .ok (.istore 6, 2) := by decide +kernel
theorem dX6_warm_31 : decode cX6_warm 31 = .ok (.iload 6, 2) := by decide +kernel
theorem dX6_warm_33 : decode cX6_warm 33 = .ok (.ifCond .eq 15, 3) := by decide +kernel
theorem dX6_warm_36 : decode cX6_warm 36 = .ok (.iload 4, 2) := by decide +kernel
theorem dX6_warm_38 : decode cX6_warm 38 = .ok (.aload_n 1, 1) := by decide +kernel
theorem dX6_warm_39 : decode cX6_warm 39 = .ok (.getfield 99, 3) := by decide +kernel
theorem dX6_warm_42 : decode cX6_warm 42 = .ok (.iconst 0, 1) := by decide +kernel
theorem dX6_warm_43 : decode cX6_warm 43 = .ok (.iaload, 1) := by decide +kernel
theorem dX6_warm_44 : decode cX6_warm 44 = .ok (.iadd, 1) := by decide +kernel
theorem dX6_warm_45 : decode cX6_warm 45 = .ok (.goto 12, 3) := by decide +kernel
theorem dX6_warm_48 : decode cX6_warm 48 = .ok (.iload 4, 2) := by decide +kernel
theorem dX6_warm_50 : decode cX6_warm 50 = .ok (.aload_n 1, 1) := by decide +kernel
theorem dX6_warm_51 : decode cX6_warm 51 = .ok (.getfield 99, 3) := by decide +kernel
theorem dX6_warm_54 : decode cX6_warm 54 = .ok (.iconst 1, 1) := by decide +kernel
theorem dX6_warm_55 : decode cX6_warm 55 = .ok (.iaload, 1) := by decide +kernel
theorem dX6_warm_56 : decode cX6_warm 56 = .ok (.isub, 1) := by decide +kernel
theorem dX6_warm_57 : decode cX6_warm 57 = .ok (.istore 7, 2) := by decide +kernel
theorem dX6_warm_59 : decode cX6_warm 59 = .ok (.iconst 0, 1) := by decide +kernel
theorem dX6_warm_60 : decode cX6_warm 60 = .ok (.bipush 99, 2) := by decide +kernel
theorem dX6_warm_62 : decode cX6_warm 62 = .ok (.iload 7, 2) := by decide +kernel
theorem dX6_warm_64 : decode cX6_warm 64 = .ok (.invokestatic 102, 3) := by decide +kernel
theorem dX6_warm_67 : decode cX6_warm 67 = .ok (.invokestatic 31, 3) := by decide +kernel
theorem dX6_warm_70 : decode cX6_warm 70 = .ok (.istore 4, 2) := by decide +kernel
theorem dX6_warm_72 : decode cX6_warm 72 = .ok (.aload_n 0, 1) := by decide +kernel
theorem dX6_warm_73 : decode cX6_warm 73 = .ok (.getfield 9, 3) := by decide +kernel
theorem dX6_warm_76 : decode cX6_warm 76 = .ok (.iload 5, 2) := by decide +kernel
theorem dX6_warm_78 : decode cX6_warm 78 = .ok (.iload 4, 2) := by decide +kernel
theorem dX6_warm_80 : decode cX6_warm 80 = .ok (.iastore, 1) := by decide +kernel
theorem dX6_warm_81 : decode cX6_warm 81 = .ok (.iinc 5 1, 3) := by decide +kernel
theorem dX6_warm_84 : decode cX6_warm 84 = .ok (.goto (-78), 3) := by decide +kernel
theorem dX6_warm_87 : decode cX6_warm 87 = .ok (.return_, 1) := by decide +kernel
theorem dX6_knock_0 : decode cX6_knock 0 = .ok (.aload_n 1, 1) := by decide +kernel
theorem dX6_knock_1 : decode cX6_knock 1 = .ok (.getfield 89, 3) := by decide +kernel
theorem dX6_knock_4 : decode cX6_knock 4 = .ok (.iload_n 2, 1) := by decide +kernel
theorem dX6_knock_5 : decode cX6_knock 5 = .ok (.iaload, 1) := by decide +kernel
theorem dX6_knock_6 : decode cX6_knock 6 = .ok (.istore 7, 2) := by decide +kernel
theorem dX6_knock_8 : decode cX6_knock 8 = .ok (.lload_n 3, 1) := by decide +kernel
theorem dX6_knock_9 : decode cX6_knock 9 = .ok (.iconst 1, 1) := by decide +kernel
theorem dX6_knock_10 : decode cX6_knock 10 = .ok (.lshl, 1) := by decide +kernel
theorem dX6_knock_11 : decode cX6_knock 11 = .ok (.lload_n 3, 1) := by decide +kernel
theorem dX6_knock_12 : decode cX6_knock 12 = .ok (.ldc2_w 55, 3) := by decide +kernel
theorem dX6_knock_15 : decode cX6_knock 15 = .ok (.lxor, 1) := by decide +kernel
theorem dX6_knock_16 : decode cX6_knock 16 = .ok (.land, 1) := by decide +kernel
theorem dX6_knock_17 : decode cX6_knock 17 = .ok (.ldc2_w 40, 3) := by decide +kernel
theorem dX6_knock_20 : decode cX6_knock 20 = .ok (.land, 1) := by decide +kernel
theorem dX6_knock_21 : decode cX6_knock 21 = .ok (.lstore 8, 2) := by decide +kernel
theorem dX6_knock_23 : decode cX6_knock 23 = .ok (.lload_n 3, 1) := by decide +kernel
theorem dX6_knock_24 : decode cX6_knock 24 = .ok (.lload_n 3, 1) := by decide +kernel
theorem dX6_knock_25 : decode cX6_knock 25 = .ok (.iconst 1, 1) := by decide +kernel
theorem dX6_knock_26 : decode cX6_knock 26 = .ok (.lshl, 1) := by decide +kernel
theorem dX6_knock_27 : decode cX6_knock 27 = .ok (.ldc2_w 55, 3) := by decide +kernel
theorem dX6_knock_30 : decode cX6_knock 30 = .ok (.lxor, 1) := by decide +kernel
theorem dX6_knock_31 : decode cX6_knock 31 = .ok (.land, 1) := by decide +kernel
theorem dX6_knock_32 : decode cX6_knock 32 = .ok (.lstore 10, 2) := by decide +kernel
theorem dX6_knock_34 : decode cX6_knock 34 = .ok (.aload_n 1, 1) := by decide +kernel
theorem dX6_knock_35 : decode cX6_knock 35 = .ok (.getfield 86, 3) := by decide +kernel
theorem dX6_knock_38 : decode cX6_knock 38 = .ok (.iload_n 2, 1) := by decide +kernel
theorem dX6_knock_39 : decode cX6_knock 39 = .ok (.iaload, 1) := by decide +kernel
theorem dX6_knock_40 : decode cX6_knock 40 = .ok (.tableswitch 127 1 6 #[40, 58, 85, 49, 71, 102], 40) := by decide +kernel
theorem dX6_knock_80 : decode cX6_knock 80 = .ok (.aload_n 0, 1) := by decide +kernel
theorem dX6_knock_81 : decode cX6_knock 81 = .ok (.iload_n 2, 1) := by decide +kernel
theorem dX6_knock_82 : decode cX6_knock 82 = .ok (.iconst 0, 1) := by decide +kernel
theorem dX6_knock_83 : decode cX6_knock 83 = .ok (.invokevirtual 105, 3) := by decide +kernel
theorem dX6_knock_86 : decode cX6_knock 86 = .ok (.goto 101, 3) := by decide +kernel
theorem dX6_knock_89 : decode cX6_knock 89 = .ok (.aload_n 0, 1) := by decide +kernel
theorem dX6_knock_90 : decode cX6_knock 90 = .ok (.iload_n 2, 1) := by decide +kernel
theorem dX6_knock_91 : decode cX6_knock 91 = .ok (.iconst 1, 1) := by decide +kernel
theorem dX6_knock_92 : decode cX6_knock 92 = .ok (.invokevirtual 105, 3) := by decide +kernel
theorem dX6_knock_95 : decode cX6_knock 95 = .ok (.goto 92, 3) := by decide +kernel
theorem dX6_knock_98 : decode cX6_knock 98 = .ok (.aload_n 0, 1) := by decide +kernel
theorem dX6_knock_99 : decode cX6_knock 99 = .ok (.iload_n 2, 1) := by decide +kernel
theorem dX6_knock_100 : decode cX6_knock 100 = .ok (.lload 8, 2) := by decide +kernel
theorem dX6_knock_102 : decode cX6_knock 102 = .ok (.iload 7, 2) := by decide +kernel
theorem dX6_knock_104 : decode cX6_knock 104 = .ok (.lconst 0, 1) := by decide +kernel
theorem dX6_knock_105 : decode cX6_knock 105 = .ok (.invokevirtual 109, 3) := by decide +kernel
theorem dX6_knock_108 : decode cX6_knock 108 = .ok (.goto 79, 3) := by decide +kernel
theorem dX6_knock_111 : decode cX6_knock 111 = .ok (.aload_n 0, 1) := by decide +kernel
theorem dX6_knock_112 : decode cX6_knock 112 = .ok (.iload_n 2, 1) := by decide +kernel
theorem dX6_knock_113 : decode cX6_knock 113 = .ok (.lload 8, 2) := by decide +kernel
theorem dX6_knock_115 : decode cX6_knock 115 = .ok (.iload 7, 2) := by decide +kernel
theorem dX6_knock_117 : decode cX6_knock 117 = .ok (.lload 10, 2) := by decide +kernel
theorem dX6_knock_119 : decode cX6_knock 119 = .ok (.invokevirtual 109, 3) := by decide +kernel
theorem dX6_knock_122 : decode cX6_knock 122 = .ok (.goto 65, 3) := by decide +kernel
theorem dX6_knock_125 : decode cX6_knock 125 = .ok (.aload_n 0, 1) := by decide +kernel
theorem dX6_knock_126 : decode cX6_knock 126 = .ok (.iload_n 2, 1) := by decide +kernel
theorem dX6_knock_127 : decode cX6_knock 127 = .ok (.lconst 0, 1) := by decide +kernel
theorem dX6_knock_128 : decode cX6_knock 128 = .ok (.iconst 0, 1) := by decide +kernel
theorem dX6_knock_129 : decode cX6_knock 129 = .ok (.lload 5, 2) := by decide +kernel
theorem dX6_knock_131 : decode cX6_knock 131 = .ok (.iload 7, 2) := by decide +kernel
theorem dX6_knock_133 : decode cX6_knock 133 = .ok (.invokestatic 113, 3) := by decide +kernel
theorem dX6_knock_136 : decode cX6_knock 136 = .ok (.invokevirtual 109, 3) := by decide +kernel
theorem dX6_knock_139 : decode cX6_knock 139 = .ok (.goto 48, 3) := by decide +kernel
theorem dX6_knock_142 : decode cX6_knock 142 = .ok (.aload_n 0, 1) := by decide +kernel
theorem dX6_knock_143 : decode cX6_knock 143 = .ok (.iload_n 2, 1) := by decide +kernel
theorem dX6_knock_144 : decode cX6_knock 144 = .ok (.lconst 0, 1) := by decide +kernel
theorem dX6_knock_145 : decode cX6_knock 145 = .ok (.iconst 0, 1) := by decide +kernel
theorem dX6_knock_146 : decode cX6_knock 146 = .ok (.lload 5, 2) := by decide +kernel
theorem dX6_knock_148 : decode cX6_knock 148 = .ok (.ldc2_w 55, 3) := by decide +kernel
theorem dX6_knock_151 : decode cX6_knock 151 = .ok (.lxor, 1) := by decide +kernel
theorem dX6_knock_152 : decode cX6_knock 152 = .ok (.ldc2_w 40, 3) := by decide +kernel
theorem dX6_knock_155 : decode cX6_knock 155 = .ok (.land, 1) := by decide +kernel
theorem dX6_knock_156 : decode cX6_knock 156 = .ok (.iload 7, 2) := by decide +kernel
theorem dX6_knock_158 : decode cX6_knock 158 = .ok (.invokestatic 113, 3) := by decide +kernel
theorem dX6_knock_161 : decode cX6_knock 161 = .ok (.invokevirtual 109, 3) := by decide +kernel
theorem dX6_knock_164 : decode cX6_knock 164 = .ok (.goto 23, 3) := by decide +kernel
theorem dX6_knock_167 : decode cX6_knock 167 = .ok (.aload_n 0, 1) := by decide +kernel
theorem dX6_knock_168 : decode cX6_knock 168 = .ok (.iload_n 2, 1) := by decide +kernel
theorem dX6_knock_169 : decode cX6_knock 169 = .ok (.lconst 0, 1) := by decide +kernel
theorem dX6_knock_170 : decode cX6_knock 170 = .ok (.iconst 0, 1) := by decide +kernel
theorem dX6_knock_171 : decode cX6_knock 171 = .ok (.aload_n 0, 1) := by decide +kernel
theorem dX6_knock_172 : decode cX6_knock 172 = .ok (.getfield 24, 3) := by decide +kernel
theorem dX6_knock_175 : decode cX6_knock 175 = .ok (.iload_n 2, 1) := by decide +kernel
theorem dX6_knock_176 : decode cX6_knock 176 = .ok (.laload, 1) := by decide +kernel
theorem dX6_knock_177 : decode cX6_knock 177 = .ok (.ldc2_w 117, 3) := by decide +kernel
theorem dX6_knock_180 : decode cX6_knock 180 = .ok (.iload 7, 2) := by decide +kernel
theorem dX6_knock_182 : decode cX6_knock 182 = .ok (.lshl, 1) := by decide +kernel
theorem dX6_knock_183 : decode cX6_knock 183 = .ok (.land, 1) := by decide +kernel
theorem dX6_knock_184 : decode cX6_knock 184 = .ok (.invokevirtual 109, 3) := by decide +kernel
theorem dX6_knock_187 : decode cX6_knock 187 = .ok (.return_, 1) := by decide +kernel
theorem dX6_mark_0 : decode cX6_mark 0 = .ok (.iconst 0, 1) := by decide +kernel
theorem dX6_mark_1 : decode cX6_mark 1 = .ok (.istore 7, 2) := by decide +kernel
theorem dX6_mark_3 : decode cX6_mark 3 = .ok (.iload 7, 2) := by decide +kernel
theorem dX6_mark_5 : decode cX6_mark 5 = .ok (.bipush 40, 2) := by decide +kernel
theorem dX6_mark_7 : decode cX6_mark 7 = .ok (.if_icmp .ge 59, 3) := by decide +kernel
theorem dX6_mark_10 : decode cX6_mark 10 = .ok (.iconst 0, 1) := by decide +kernel
theorem dX6_mark_11 : decode cX6_mark 11 = .ok (.istore 8, 2) := by decide +kernel
theorem dX6_mark_13 : decode cX6_mark 13 = .ok (.lload_n 2, 1) := by decide +kernel
theorem dX6_mark_14 : decode cX6_mark 14 = .ok (.iload 7, 2) := by decide +kernel
theorem dX6_mark_16 : decode cX6_mark 16 = .ok (.lshr, 1) := by decide +kernel
theorem dX6_mark_17 : decode cX6_mark 17 = .ok (.lconst 1, 1) := by decide +kernel
theorem dX6_mark_18 : decode cX6_mark 18 = .ok (.land, 1) := by decide +kernel
theorem dX6_mark_19 : decode cX6_mark 19 = .ok (.lconst 0, 1) := by decide +kernel
theorem dX6_mark_20 : decode cX6_mark 20 = .ok (.lcmp, 1) := by decide +kernel
theorem dX6_mark_21 : decode cX6_mark 21 = .ok (.ifCond .eq 10, 3) := by decide +kernel
theorem dX6_mark_24 : decode cX6_mark 24 = .ok (.iload 8, 2) := by decide +kernel
theorem dX6_mark_26 : decode cX6_mark 26 = .ok (.iload 4, 2) := by decide +kernel
theorem dX6_mark_28 : decode cX6_mark 28 = .ok (.iadd, 1) := by decide +kernel
theorem dX6_mark_29 : decode cX6_mark 29 = .ok (.istore 8, 2) := by decide +kernel
theorem dX6_mark_31 : decode cX6_mark 31 = .ok (.lload 5, 2) := by decide +kernel
theorem dX6_mark_33 : decode cX6_mark 33 = .ok (.iload 7, 2) := by decide +kernel
theorem dX6_mark_35 : decode cX6_mark 35 = .ok (.lshr, 1) := by decide +kernel
theorem dX6_mark_36 : decode cX6_mark 36 = .ok (.lconst 1, 1) := by decide +kernel
theorem dX6_mark_37 : decode cX6_mark 37 = .ok (.land, 1) := by decide +kernel
theorem dX6_mark_38 : decode cX6_mark 38 = .ok (.lconst 0, 1) := by decide +kernel
theorem dX6_mark_39 : decode cX6_mark 39 = .ok (.lcmp, 1) := by decide +kernel
theorem dX6_mark_40 : decode cX6_mark 40 = .ok (.ifCond .eq 6, 3) := by decide +kernel
theorem dX6_mark_43 : decode cX6_mark 43 = .ok (.iinc 8 1, 3) := by decide +kernel
theorem dX6_mark_46 : decode cX6_mark 46 = .ok (.aload_n 0, 1) := by decide +kernel
theorem dX6_mark_47 : decode cX6_mark 47 = .ok (.getfield 21, 3) := by decide +kernel
theorem dX6_mark_50 : decode cX6_mark 50 = .ok (.iload_n 1, 1) := by decide +kernel
theorem dX6_mark_51 : decode cX6_mark 51 = .ok (.bipush 40, 2) := by decide +kernel
theorem dX6_mark_53 : decode cX6_mark 53 = .ok (.imul, 1) := by decide +kernel
theorem dX6_mark_54 : decode cX6_mark 54 = .ok (.iload 7, 2) := by decide +kernel
theorem dX6_mark_56 : decode cX6_mark 56 = .ok (.iadd, 1) := by decide +kernel
theorem dX6_mark_57 : decode cX6_mark 57 = .ok (.iload 8, 2) := by decide +kernel
theorem dX6_mark_59 : decode cX6_mark 59 = .ok (.iastore, 1) := by decide +kernel
theorem dX6_mark_60 : decode cX6_mark 60 = .ok (.iinc 7 1, 3) := by decide +kernel
theorem dX6_mark_63 : decode cX6_mark 63 = .ok (.goto (-60), 3) := by decide +kernel
theorem dX6_mark_66 : decode cX6_mark 66 = .ok (.return_, 1) := by decide +kernel
theorem dX6_lasting_0 : decode cX6_lasting 0 = .ok (.lload_n 0, 1) := by decide +kernel
theorem dX6_lasting_1 : decode cX6_lasting 1 = .ok (.lstore_n 3, 1) := by decide +kernel
theorem dX6_lasting_2 : decode cX6_lasting 2 = .ok (.iconst 1, 1) := by decide +kernel
theorem dX6_lasting_3 : decode cX6_lasting 3 = .ok (.istore 5, 2) := by decide +kernel
theorem dX6_lasting_5 : decode cX6_lasting 5 = .ok (.iload 5, 2) := by decide +kernel
theorem dX6_lasting_7 : decode cX6_lasting 7 = .ok (.iload_n 2, 1) := by decide +kernel
theorem dX6_lasting_8 : decode cX6_lasting 8 = .ok (.if_icmp .ge 23, 3) := by decide +kernel
theorem dX6_lasting_11 : decode cX6_lasting 11 = .ok (.iload 5, 2) := by decide +kernel
theorem dX6_lasting_13 : decode cX6_lasting 13 = .ok (.bipush 40, 2) := by decide +kernel
theorem dX6_lasting_15 : decode cX6_lasting 15 = .ok (.if_icmp .ge 16, 3) := by decide +kernel
theorem dX6_lasting_18 : decode cX6_lasting 18 = .ok (.lload_n 3, 1) := by decide +kernel
theorem dX6_lasting_19 : decode cX6_lasting 19 = .ok (.lload_n 0, 1) := by decide +kernel
theorem dX6_lasting_20 : decode cX6_lasting 20 = .ok (.iload 5, 2) := by decide +kernel
theorem dX6_lasting_22 : decode cX6_lasting 22 = .ok (.lshl, 1) := by decide +kernel
theorem dX6_lasting_23 : decode cX6_lasting 23 = .ok (.land, 1) := by decide +kernel
theorem dX6_lasting_24 : decode cX6_lasting 24 = .ok (.lstore_n 3, 1) := by decide +kernel
theorem dX6_lasting_25 : decode cX6_lasting 25 = .ok (.iinc 5 1, 3) := by decide +kernel
theorem dX6_lasting_28 : decode cX6_lasting 28 = .ok (.goto (-23), 3) := by decide +kernel
theorem dX6_lasting_31 : decode cX6_lasting 31 = .ok (.lload_n 3, 1) := by decide +kernel
theorem dX6_lasting_32 : decode cX6_lasting 32 = .ok (.lreturn, 1) := by decide +kernel
theorem dX6_tick_0 : decode cX6_tick 0 = .ok (.iconst 0, 1) := by decide +kernel
theorem dX6_tick_1 : decode cX6_tick 1 = .ok (.istore_n 3, 1) := by decide +kernel
theorem dX6_tick_2 : decode cX6_tick 2 = .ok (.iconst 0, 1) := by decide +kernel
theorem dX6_tick_3 : decode cX6_tick 3 = .ok (.istore 4, 2) := by decide +kernel
theorem dX6_tick_5 : decode cX6_tick 5 = .ok (.iconst 0, 1) := by decide +kernel
theorem dX6_tick_6 : decode cX6_tick 6 = .ok (.istore 5, 2) := by decide +kernel
theorem dX6_tick_8 : decode cX6_tick 8 = .ok (.iload 5, 2) := by decide +kernel
theorem dX6_tick_10 : decode cX6_tick 10 = .ok (.bipush 40, 2) := by decide +kernel
theorem dX6_tick_12 : decode cX6_tick 12 = .ok (.if_icmp .ge 92, 3) := by decide +kernel
theorem dX6_tick_15 : decode cX6_tick 15 = .ok (.aload_n 0, 1) := by decide +kernel
theorem dX6_tick_16 : decode cX6_tick 16 = .ok (.iload_n 1, 1) := by decide +kernel
theorem dX6_tick_17 : decode cX6_tick 17 = .ok (.iload 5, 2) := by decide +kernel
theorem dX6_tick_19 : decode cX6_tick 19 = .ok (.invokevirtual 119, 3) := by decide +kernel
theorem dX6_tick_22 : decode cX6_tick 22 = .ok (.istore 6, 2) := by decide +kernel
theorem dX6_tick_24 : decode cX6_tick 24 = .ok (.bipush 9, 2) := by decide +kernel
theorem dX6_tick_26 : decode cX6_tick 26 = .ok (.iload 6, 2) := by decide +kernel
theorem dX6_tick_28 : decode cX6_tick 28 = .ok (.iload_n 3, 1) := by decide +kernel
theorem dX6_tick_29 : decode cX6_tick 29 = .ok (.isub, 1) := by decide +kernel
theorem dX6_tick_30 : decode cX6_tick 30 = .ok (.invokestatic 122, 3) := by decide +kernel
theorem dX6_tick_33 : decode cX6_tick 33 = .ok (.aload_n 0, 1) := by decide +kernel
theorem dX6_tick_34 : decode cX6_tick 34 = .ok (.iload_n 1, 1) := by decide +kernel
theorem dX6_tick_35 : decode cX6_tick 35 = .ok (.iload 5, 2) := by decide +kernel
theorem dX6_tick_37 : decode cX6_tick 37 = .ok (.invokevirtual 125, 3) := by decide +kernel
theorem dX6_tick_40 : decode cX6_tick 40 = .ok (.idiv, 1) := by decide +kernel
theorem dX6_tick_41 : decode cX6_tick 41 = .ok (.invokestatic 102, 3) := by decide +kernel
theorem dX6_tick_44 : decode cX6_tick 44 = .ok (.istore 7, 2) := by decide +kernel
theorem dX6_tick_46 : decode cX6_tick 46 = .ok (.iload 7, 2) := by decide +kernel
theorem dX6_tick_48 : decode cX6_tick 48 = .ok (.iconst 1, 1) := by decide +kernel
theorem dX6_tick_49 : decode cX6_tick 49 = .ok (.if_icmp .lt 6, 3) := by decide +kernel
theorem dX6_tick_52 : decode cX6_tick 52 = .ok (.iload 6, 2) := by decide +kernel
theorem dX6_tick_54 : decode cX6_tick 54 = .ok (.istore_n 3, 1) := by decide +kernel
theorem dX6_tick_55 : decode cX6_tick 55 = .ok (.aload_n 0, 1) := by decide +kernel
theorem dX6_tick_56 : decode cX6_tick 56 = .ok (.getfield 21, 3) := by decide +kernel
theorem dX6_tick_59 : decode cX6_tick 59 = .ok (.iload_n 1, 1) := by decide +kernel
theorem dX6_tick_60 : decode cX6_tick 60 = .ok (.bipush 40, 2) := by decide +kernel
theorem dX6_tick_62 : decode cX6_tick 62 = .ok (.imul, 1) := by decide +kernel
theorem dX6_tick_63 : decode cX6_tick 63 = .ok (.iload 5, 2) := by decide +kernel
theorem dX6_tick_65 : decode cX6_tick 65 = .ok (.iadd, 1) := by decide +kernel
theorem dX6_tick_66 : decode cX6_tick 66 = .ok (.iload_n 2, 1) := by decide +kernel
theorem dX6_tick_67 : decode cX6_tick 67 = .ok (.ifCond .eq 19, 3) := by decide +kernel
theorem dX6_tick_70 : decode cX6_tick 70 = .ok (.aload_n 0, 1) := by decide +kernel
theorem dX6_tick_71 : decode cX6_tick 71 = .ok (.getfield 9, 3) := by decide +kernel
theorem dX6_tick_74 : decode cX6_tick 74 = .ok (.iload 5, 2) := by decide +kernel
theorem dX6_tick_76 : decode cX6_tick 76 = .ok (.iaload, 1) := by decide +kernel
theorem dX6_tick_77 : decode cX6_tick 77 = .ok (.iload 4, 2) := by decide +kernel
theorem dX6_tick_79 : decode cX6_tick 79 = .ok (.if_icmp .gt 7, 3) := by decide +kernel
theorem dX6_tick_82 : decode cX6_tick 82 = .ok (.iconst 0, 1) := by decide +kernel
theorem dX6_tick_83 : decode cX6_tick 83 = .ok (.goto 5, 3) := by decide +kernel
theorem dX6_tick_86 : decode cX6_tick 86 = .ok (.iload 7, 2) := by decide +kernel
theorem dX6_tick_88 : decode cX6_tick 88 = .ok (.iastore, 1) := by decide +kernel
theorem dX6_tick_89 : decode cX6_tick 89 = .ok (.aload_n 0, 1) := by decide +kernel
theorem dX6_tick_90 : decode cX6_tick 90 = .ok (.getfield 9, 3) := by decide +kernel
theorem dX6_tick_93 : decode cX6_tick 93 = .ok (.iload 5, 2) := by decide +kernel
theorem dX6_tick_95 : decode cX6_tick 95 = .ok (.iaload, 1) := by decide +kernel
theorem dX6_tick_96 : decode cX6_tick 96 = .ok (.istore 4, 2) := by decide +kernel
theorem dX6_tick_98 : decode cX6_tick 98 = .ok (.iinc 5 1, 3) := by decide +kernel
theorem dX6_tick_101 : decode cX6_tick 101 = .ok (.goto (-93), 3) := by decide +kernel
theorem dX6_tick_104 : decode cX6_tick 104 = .ok (.return_, 1) := by decide +kernel
theorem dX7_init_0 : decode cX7_init 0 = .ok (.aload_n 0, 1) := by decide +kernel
theorem dX7_init_1 : decode cX7_init 1 = .ok (.invokespecial 3, 3) := by decide +kernel
theorem dX7_init_4 : decode cX7_init 4 = .ok (.aload_n 0, 1) := by decide +kernel
theorem dX7_init_5 : decode cX7_init 5 = .ok (.bipush 120, 2) := by decide +kernel
theorem dX7_init_7 : decode cX7_init 7 = .ok (.newarray .int, 2) := by decide +kernel
theorem dX7_init_9 : decode cX7_init 9 = .ok (.putfield 9, 3) := by decide +kernel
theorem dX7_init_12 : decode cX7_init 12 = .ok (.aload_n 0, 1) := by decide +kernel
theorem dX7_init_13 : decode cX7_init 13 = .ok (.iconst 0, 1) := by decide +kernel
theorem dX7_init_14 : decode cX7_init 14 = .ok (.putfield 15, 3) := by decide +kernel
theorem dX7_init_17 : decode cX7_init 17 = .ok (.return_, 1) := by decide +kernel
theorem dX7_add_0 : decode cX7_add 0 = .ok (.aload_n 0, 1) := by decide +kernel
theorem dX7_add_1 : decode cX7_add 1 = .ok (.getfield 15, 3) := by decide +kernel
theorem dX7_add_4 : decode cX7_add 4 = .ok (.ifCond .lt 15, 3) := by decide +kernel
theorem dX7_add_7 : decode cX7_add 7 = .ok (.aload_n 0, 1) := by decide +kernel
theorem dX7_add_8 : decode cX7_add 8 = .ok (.getfield 15, 3) := by decide +kernel
theorem dX7_add_11 : decode cX7_add 11 = .ok (.aload_n 0, 1) := by decide +kernel
theorem dX7_add_12 : decode cX7_add 12 = .ok (.getfield 9, 3) := by decide +kernel
theorem dX7_add_15 : decode cX7_add 15 = .ok (.arraylength, 1) := by decide +kernel
theorem dX7_add_16 : decode cX7_add 16 = .ok (.if_icmp .lt 4, 3) := by decide +kernel
theorem dX7_add_19 : decode cX7_add 19 = .ok (.return_, 1) := by decide +kernel
theorem dX7_add_20 : decode cX7_add 20 = .ok (.aload_n 0, 1) := by decide +kernel
theorem dX7_add_21 : decode cX7_add 21 = .ok (.getfield 9, 3) := by decide +kernel
theorem dX7_add_24 : decode cX7_add 24 = .ok (.aload_n 0, 1) := by decide +kernel
theorem dX7_add_25 : decode cX7_add 25 = .ok (.getfield 15, 3) := by decide +kernel
theorem dX7_add_28 : decode cX7_add 28 = .ok (.iload_n 1, 1) := by decide +kernel
theorem dX7_add_29 : decode cX7_add 29 = .ok (.iastore, 1) := by decide +kernel
theorem dX7_add_30 : decode cX7_add 30 = .ok (.aload_n 0, 1) := by decide +kernel
theorem dX7_add_31 : decode cX7_add 31 = .ok (.dup, 1) := by decide +kernel
theorem dX7_add_32 : decode cX7_add 32 = .ok (.getfield 15, 3) := by decide +kernel
theorem dX7_add_35 : decode cX7_add 35 = .ok (.iconst 1, 1) := by decide +kernel
theorem dX7_add_36 : decode cX7_add 36 = .ok (.iadd, 1) := by decide +kernel
theorem dX7_add_37 : decode cX7_add 37 = .ok (.putfield 15, 3) := by decide +kernel
theorem dX7_add_40 : decode cX7_add 40 = .ok (.return_, 1) := by decide +kernel
theorem dX7_copy_0 : decode cX7_copy 0 = .ok (.aload_n 1, 1) := by decide +kernel
theorem dX7_copy_1 : decode cX7_copy 1 = .ok (.getfield 9, 3) := by decide +kernel
theorem dX7_copy_4 : decode cX7_copy 4 = .ok (.iconst 0, 1) := by decide +kernel
theorem dX7_copy_5 : decode cX7_copy 5 = .ok (.aload_n 0, 1) := by decide +kernel
theorem dX7_copy_6 : decode cX7_copy 6 = .ok (.getfield 9, 3) := by decide +kernel
theorem dX7_copy_9 : decode cX7_copy 9 = .ok (.iconst 0, 1) := by decide +kernel
theorem dX7_copy_10 : decode cX7_copy 10 = .ok (.bipush 120, 2) := by decide +kernel
theorem dX7_copy_12 : decode cX7_copy 12 = .ok (.invokestatic 19, 3) := by decide +kernel
theorem dX7_copy_15 : decode cX7_copy 15 = .ok (.aload_n 0, 1) := by decide +kernel
theorem dX7_copy_16 : decode cX7_copy 16 = .ok (.aload_n 1, 1) := by decide +kernel
theorem dX7_copy_17 : decode cX7_copy 17 = .ok (.getfield 15, 3) := by decide +kernel
theorem dX7_copy_20 : decode cX7_copy 20 = .ok (.putfield 15, 3) := by decide +kernel
theorem dX7_copy_23 : decode cX7_copy 23 = .ok (.return_, 1) := by decide +kernel
theorem dX8_code_0 : decode cX8_code 0 = .ok (.iload_n 0, 1) := by decide +kernel
theorem dX8_code_1 : decode cX8_code 1 = .ok (.iconst 3, 1) := by decide +kernel
theorem dX8_code_2 : decode cX8_code 2 = .ok (.imul, 1) := by decide +kernel
theorem dX8_code_3 : decode cX8_code 3 = .ok (.iload_n 1, 1) := by decide +kernel
theorem dX8_code_4 : decode cX8_code 4 = .ok (.iadd, 1) := by decide +kernel
theorem dX8_code_5 : decode cX8_code 5 = .ok (.bipush 100, 2) := by decide +kernel
theorem dX8_code_7 : decode cX8_code 7 = .ok (.imul, 1) := by decide +kernel
theorem dX8_code_8 : decode cX8_code 8 = .ok (.iload_n 2, 1) := by decide +kernel
theorem dX8_code_9 : decode cX8_code 9 = .ok (.iadd, 1) := by decide +kernel
theorem dX8_code_10 : decode cX8_code 10 = .ok (.ireturn, 1) := by decide +kernel
theorem dX8_subject_0 : decode cX8_subject 0 = .ok (.iload_n 0, 1) := by decide +kernel
theorem dX8_subject_1 : decode cX8_subject 1 = .ok (.sipush 300, 3) := by decide +kernel
theorem dX8_subject_4 : decode cX8_subject 4 = .ok (.idiv, 1) := by decide +kernel
theorem dX8_subject_5 : decode cX8_subject 5 = .ok (.ireturn, 1) := by decide +kernel
theorem dX8_sign_0 : decode cX8_sign 0 = .ok (.iload_n 0, 1) := by decide +kernel
theorem dX8_sign_1 : decode cX8_sign 1 = .ok (.bipush 100, 2) := by decide +kernel
theorem dX8_sign_3 : decode cX8_sign 3 = .ok (.idiv, 1) := by decide +kernel
theorem dX8_sign_4 : decode cX8_sign 4 = .ok (.iconst 3, 1) := by decide +kernel
theorem dX8_sign_5 : decode cX8_sign 5 = .ok (.irem, 1) := by decide +kernel
theorem dX8_sign_6 : decode cX8_sign 6 = .ok (.ireturn, 1) := by decide +kernel
theorem dX8_number_0 : decode cX8_number 0 = .ok (.iload_n 0, 1) := by decide +kernel
theorem dX8_number_1 : decode cX8_number 1 = .ok (.bipush 100, 2) := by decide +kernel
theorem dX8_number_3 : decode cX8_number 3 = .ok (.irem, 1) := by decide +kernel
theorem dX8_number_4 : decode cX8_number 4 = .ok (.ireturn, 1) := by decide +kernel
theorem dX8_holds_0 : decode cX8_holds 0 = .ok (.iload_n 1, 1) := by decide +kernel
theorem dX8_holds_1 : decode cX8_holds 1 = .ok (.iload_n 0, 1) := by decide +kernel
theorem dX8_holds_2 : decode cX8_holds 2 = .ok (.invokestatic 9, 3) := by decide +kernel
theorem dX8_holds_5 : decode cX8_holds 5 = .ok (.invokestatic 15, 3) := by decide +kernel
theorem dX8_holds_8 : decode cX8_holds 8 = .ok (.iconst 1, 1) := by decide +kernel
theorem dX8_holds_9 : decode cX8_holds 9 = .ok (.iadd, 1) := by decide +kernel
theorem dX8_holds_10 : decode cX8_holds 10 = .ok (.istore_n 2, 1) := by decide +kernel
theorem dX8_holds_11 : decode cX8_holds 11 = .ok (.iload_n 2, 1) := by decide +kernel
theorem dX8_holds_12 : decode cX8_holds 12 = .ok (.iload_n 0, 1) := by decide +kernel
theorem dX8_holds_13 : decode cX8_holds 13 = .ok (.invokestatic 21, 3) := by decide +kernel
theorem dX8_holds_16 : decode cX8_holds 16 = .ok (.if_icmp .ne 7, 3) := by decide +kernel
theorem dX8_holds_19 : decode cX8_holds 19 = .ok (.iconst 1, 1) := by decide +kernel
theorem dX8_holds_20 : decode cX8_holds 20 = .ok (.goto 4, 3) := by decide +kernel
theorem dX8_holds_23 : decode cX8_holds 23 = .ok (.iconst 0, 1) := by decide +kernel
theorem dX8_holds_24 : decode cX8_holds 24 = .ok (.ireturn, 1) := by decide +kernel
theorem dX8_minutes_0 : decode cX8_minutes 0 = .ok (.iload_n 0, 1) := by decide +kernel
theorem dX8_minutes_1 : decode cX8_minutes 1 = .ok (.invokestatic 9, 3) := by decide +kernel
theorem dX8_minutes_4 : decode cX8_minutes 4 = .ok (.istore_n 1, 1) := by decide +kernel
theorem dX8_minutes_5 : decode cX8_minutes 5 = .ok (.iload_n 1, 1) := by decide +kernel
theorem dX8_minutes_6 : decode cX8_minutes 6 = .ok (.bipush 40, 2) := by decide +kernel
theorem dX8_minutes_8 : decode cX8_minutes 8 = .ok (.if_icmp .lt 9, 3) := by decide +kernel
theorem dX8_minutes_11 : decode cX8_minutes 11 = .ok (.ldc2_w 24, 3) := by decide +kernel
theorem dX8_minutes_14 : decode cX8_minutes 14 = .ok (.goto 8, 3) := by decide +kernel
theorem dX8_minutes_17 : decode cX8_minutes 17 = .ok (.lconst 1, 1) := by decide +kernel
theorem dX8_minutes_18 : decode cX8_minutes 18 = .ok (.iload_n 1, 1) := by decide +kernel
theorem dX8_minutes_19 : decode cX8_minutes 19 = .ok (.lshl, 1) := by decide +kernel
theorem dX8_minutes_20 : decode cX8_minutes 20 = .ok (.lconst 1, 1) := by decide +kernel
theorem dX8_minutes_21 : decode cX8_minutes 21 = .ok (.lsub, 1) := by decide +kernel
theorem dX8_minutes_22 : decode cX8_minutes 22 = .ok (.lstore_n 2, 1) := by decide +kernel
theorem dX8_minutes_23 : decode cX8_minutes 23 = .ok (.iload_n 1, 1) := by decide +kernel
theorem dX8_minutes_24 : decode cX8_minutes 24 = .ok (.bipush 40, 2) := by decide +kernel
theorem dX8_minutes_26 : decode cX8_minutes 26 = .ok (.if_icmp .lt 7, 3) := by decide +kernel
theorem dX8_minutes_29 : decode cX8_minutes 29 = .ok (.lconst 0, 1) := by decide +kernel
theorem dX8_minutes_30 : decode cX8_minutes 30 = .ok (.goto 6, 3) := by decide +kernel
theorem dX8_minutes_33 : decode cX8_minutes 33 = .ok (.lconst 1, 1) := by decide +kernel
theorem dX8_minutes_34 : decode cX8_minutes 34 = .ok (.iload_n 1, 1) := by decide +kernel
theorem dX8_minutes_35 : decode cX8_minutes 35 = .ok (.lshl, 1) := by decide +kernel
theorem dX8_minutes_36 : decode cX8_minutes 36 = .ok (.lstore 4, 2) := by decide +kernel
theorem dX8_minutes_38 : decode cX8_minutes 38 = .ok (.iload_n 0, 1) := by decide +kernel
theorem dX8_minutes_39 : decode cX8_minutes 39 = .ok (.invokestatic 21, 3) := by decide +kernel
theorem dX8_minutes_42 : decode cX8_minutes 42 = .ok (.lookupswitch 31 #[(0, 26), (1, 28)], 26) := by decide +kernel
theorem dX8_minutes_68 : decode cX8_minutes 68 = .ok (.lload_n 2, 1) := by decide +kernel
theorem dX8_minutes_69 : decode cX8_minutes 69 = .ok (.lreturn, 1) := by decide +kernel
theorem dX8_minutes_70 : decode cX8_minutes 70 = .ok (.lload 4, 2) := by decide +kernel
theorem dX8_minutes_72 : decode cX8_minutes 72 = .ok (.lreturn, 1) := by decide +kernel
theorem dX8_minutes_73 : decode cX8_minutes 73 = .ok (.ldc2_w 24, 3) := by decide +kernel
theorem dX8_minutes_76 : decode cX8_minutes 76 = .ok (.lload_n 2, 1) := by decide +kernel
theorem dX8_minutes_77 : decode cX8_minutes 77 = .ok (.ldc2_w 26, 3) := by decide +kernel
theorem dX8_minutes_80 : decode cX8_minutes 80 = .ok (.lxor, 1) := by decide +kernel
theorem dX8_minutes_81 : decode cX8_minutes 81 = .ok (.land, 1) := by decide +kernel
theorem dX8_minutes_82 : decode cX8_minutes 82 = .ok (.lload 4, 2) := by decide +kernel
theorem dX8_minutes_84 : decode cX8_minutes 84 = .ok (.ldc2_w 26, 3) := by decide +kernel
theorem dX8_minutes_87 : decode cX8_minutes 87 = .ok (.lxor, 1) := by decide +kernel
theorem dX8_minutes_88 : decode cX8_minutes 88 = .ok (.land, 1) := by decide +kernel
theorem dX8_minutes_89 : decode cX8_minutes 89 = .ok (.lreturn, 1) := by decide +kernel
theorem dX9_init_0 : decode cX9_init 0 = .ok (.aload_n 0, 1) := by decide +kernel
theorem dX9_init_1 : decode cX9_init 1 = .ok (.invokespecial 5, 3) := by decide +kernel
theorem dX9_init_4 : decode cX9_init 4 = .ok (.aload_n 0, 1) := by decide +kernel
theorem dX9_init_5 : decode cX9_init 5 = .ok (.new 11, 3) := by decide +kernel
theorem dX9_init_8 : decode cX9_init 8 = .ok (.dup, 1) := by decide +kernel
theorem dX9_init_9 : decode cX9_init 9 = .ok (.invokespecial 13, 3) := by decide +kernel
theorem dX9_init_12 : decode cX9_init 12 = .ok (.putfield 14, 3) := by decide +kernel
theorem dX9_init_15 : decode cX9_init 15 = .ok (.aload_n 0, 1) := by decide +kernel
theorem dX9_init_16 : decode cX9_init 16 = .ok (.new 11, 3) := by decide +kernel
theorem dX9_init_19 : decode cX9_init 19 = .ok (.dup, 1) := by decide +kernel
theorem dX9_init_20 : decode cX9_init 20 = .ok (.invokespecial 13, 3) := by decide +kernel
theorem dX9_init_23 : decode cX9_init 23 = .ok (.putfield 18, 3) := by decide +kernel
theorem dX9_init_26 : decode cX9_init 26 = .ok (.aload_n 0, 1) := by decide +kernel
theorem dX9_init_27 : decode cX9_init 27 = .ok (.iconst 0, 1) := by decide +kernel
theorem dX9_init_28 : decode cX9_init 28 = .ok (.putfield 21, 3) := by decide +kernel
theorem dX9_init_31 : decode cX9_init 31 = .ok (.aload_n 0, 1) := by decide +kernel
theorem dX9_init_32 : decode cX9_init 32 = .ok (.new 25, 3) := by decide +kernel
theorem dX9_init_35 : decode cX9_init 35 = .ok (.dup, 1) := by decide +kernel
theorem dX9_init_36 : decode cX9_init 36 = .ok (.invokespecial 27, 3) := by decide +kernel
theorem dX9_init_39 : decode cX9_init 39 = .ok (.putfield 28, 3) := by decide +kernel
theorem dX9_init_42 : decode cX9_init 42 = .ok (.aload_n 0, 1) := by decide +kernel
theorem dX9_init_43 : decode cX9_init 43 = .ok (.new 32, 3) := by decide +kernel
theorem dX9_init_46 : decode cX9_init 46 = .ok (.dup, 1) := by decide +kernel
theorem dX9_init_47 : decode cX9_init 47 = .ok (.invokespecial 34, 3) := by decide +kernel
theorem dX9_init_50 : decode cX9_init 50 = .ok (.putfield 35, 3) := by decide +kernel
theorem dX9_init_53 : decode cX9_init 53 = .ok (.aload_n 0, 1) := by decide +kernel
theorem dX9_init_54 : decode cX9_init 54 = .ok (.new 39, 3) := by decide +kernel
theorem dX9_init_57 : decode cX9_init 57 = .ok (.dup, 1) := by decide +kernel
theorem dX9_init_58 : decode cX9_init 58 = .ok (.invokespecial 41, 3) := by decide +kernel
theorem dX9_init_61 : decode cX9_init 61 = .ok (.putfield 42, 3) := by decide +kernel
theorem dX9_init_64 : decode cX9_init 64 = .ok (.aload_n 0, 1) := by decide +kernel
theorem dX9_init_65 : decode cX9_init 65 = .ok (.iconst 0, 1) := by decide +kernel
theorem dX9_init_66 : decode cX9_init 66 = .ok (.putfield 46, 3) := by decide +kernel
theorem dX9_init_69 : decode cX9_init 69 = .ok (.aload_n 0, 1) := by decide +kernel
theorem dX9_init_70 : decode cX9_init 70 = .ok (.bipush 120, 2) := by decide +kernel
theorem dX9_init_72 : decode cX9_init 72 = .ok (.newarray .int, 2) := by decide +kernel
theorem dX9_init_74 : decode cX9_init 74 = .ok (.putfield 49, 3) := by decide +kernel
theorem dX9_init_77 : decode cX9_init 77 = .ok (.return_, 1) := by decide +kernel
theorem dX9_day_0 : decode cX9_day 0 = .ok (.iload_n 1, 1) := by decide +kernel
theorem dX9_day_1 : decode cX9_day 1 = .ok (.ifCond .lt 8, 3) := by decide +kernel
theorem dX9_day_4 : decode cX9_day 4 = .ok (.iload_n 1, 1) := by decide +kernel
theorem dX9_day_5 : decode cX9_day 5 = .ok (.iconst 3, 1) := by decide +kernel
theorem dX9_day_6 : decode cX9_day 6 = .ok (.if_icmp .lt 5, 3) := by decide +kernel
theorem dX9_day_9 : decode cX9_day 9 = .ok (.iconst (-1), 1) := by decide +kernel
theorem dX9_day_10 : decode cX9_day 10 = .ok (.ireturn, 1) := by decide +kernel
theorem dX9_day_11 : decode cX9_day 11 = .ok (.lload_n 2, 1) := by decide +kernel
theorem dX9_day_12 : decode cX9_day 12 = .ok (.lconst 0, 1) := by decide +kernel
theorem dX9_day_13 : decode cX9_day 13 = .ok (.lcmp, 1) := by decide +kernel
theorem dX9_day_14 : decode cX9_day 14 = .ok (.ifCond .lt 11, 3) := by decide +kernel
theorem dX9_day_17 : decode cX9_day 17 = .ok (.lload_n 2, 1) := by decide +kernel
theorem dX9_day_18 : decode cX9_day 18 = .ok (.ldc2_w 53, 3) := by decide +kernel
theorem dX9_day_21 : decode cX9_day 21 = .ok (.lcmp, 1) := by decide +kernel
theorem dX9_day_22 : decode cX9_day 22 = .ok (.ifCond .le 6, 3) := by decide +kernel
theorem dX9_day_25 : decode cX9_day 25 = .ok (.bipush (-2), 2) := by decide +kernel
theorem dX9_day_27 : decode cX9_day 27 = .ok (.ireturn, 1) := by decide +kernel
theorem dX9_day_28 : decode cX9_day 28 = .ok (.aload_n 0, 1) := by decide +kernel
theorem dX9_day_29 : decode cX9_day 29 = .ok (.getfield 14, 3) := by decide +kernel
theorem dX9_day_32 : decode cX9_day 32 = .ok (.getfield 55, 3) := by decide +kernel
theorem dX9_day_35 : decode cX9_day 35 = .ok (.iload_n 1, 1) := by decide +kernel
theorem dX9_day_36 : decode cX9_day 36 = .ok (.laload, 1) := by decide +kernel
theorem dX9_day_37 : decode cX9_day 37 = .ok (.invokestatic 59, 3) := by decide +kernel
theorem dX9_day_40 : decode cX9_day 40 = .ok (.istore 4, 2) := by decide +kernel
theorem dX9_day_42 : decode cX9_day 42 = .ok (.aload_n 0, 1) := by decide +kernel
theorem dX9_day_43 : decode cX9_day 43 = .ok (.getfield 14, 3) := by decide +kernel
theorem dX9_day_46 : decode cX9_day 46 = .ok (.getfield 55, 3) := by decide +kernel
theorem dX9_day_49 : decode cX9_day 49 = .ok (.iload_n 1, 1) := by decide +kernel
theorem dX9_day_50 : decode cX9_day 50 = .ok (.lload_n 2, 1) := by decide +kernel
theorem dX9_day_51 : decode cX9_day 51 = .ok (.lastore, 1) := by decide +kernel
theorem dX9_day_52 : decode cX9_day 52 = .ok (.aload_n 0, 1) := by decide +kernel
theorem dX9_day_53 : decode cX9_day 53 = .ok (.iconst 0, 1) := by decide +kernel
theorem dX9_day_54 : decode cX9_day 54 = .ok (.putfield 46, 3) := by decide +kernel
theorem dX9_day_57 : decode cX9_day 57 = .ok (.iload 4, 2) := by decide +kernel
theorem dX9_day_59 : decode cX9_day 59 = .ok (.ireturn, 1) := by decide +kernel
theorem dX9_feed_0 : decode cX9_feed 0 = .ok (.iload_n 3, 1) := by decide +kernel
theorem dX9_feed_1 : decode cX9_feed 1 = .ok (.iconst 1, 1) := by decide +kernel
theorem dX9_feed_2 : decode cX9_feed 2 = .ok (.if_icmp .lt 9, 3) := by decide +kernel
theorem dX9_feed_5 : decode cX9_feed 5 = .ok (.iload_n 3, 1) := by decide +kernel
theorem dX9_feed_6 : decode cX9_feed 6 = .ok (.bipush 8, 2) := by decide +kernel
theorem dX9_feed_8 : decode cX9_feed 8 = .ok (.if_icmp .le 6, 3) := by decide +kernel
theorem dX9_feed_11 : decode cX9_feed 11 = .ok (.bipush (-2), 2) := by decide +kernel
theorem dX9_feed_13 : decode cX9_feed 13 = .ok (.ireturn, 1) := by decide +kernel
theorem dX9_feed_14 : decode cX9_feed 14 = .ok (.aload_n 0, 1) := by decide +kernel
theorem dX9_feed_15 : decode cX9_feed 15 = .ok (.getfield 14, 3) := by decide +kernel
theorem dX9_feed_18 : decode cX9_feed 18 = .ok (.getfield 63, 3) := by decide +kernel
theorem dX9_feed_21 : decode cX9_feed 21 = .ok (.getfield 67, 3) := by decide +kernel
theorem dX9_feed_24 : decode cX9_feed 24 = .ok (.iload_n 3, 1) := by decide +kernel
theorem dX9_feed_25 : decode cX9_feed 25 = .ok (.iadd, 1) := by decide +kernel
theorem dX9_feed_26 : decode cX9_feed 26 = .ok (.bipush 120, 2) := by decide +kernel
theorem dX9_feed_28 : decode cX9_feed 28 = .ok (.if_icmp .le 6, 3) := by decide +kernel
theorem dX9_feed_31 : decode cX9_feed 31 = .ok (.bipush (-4), 2) := by decide +kernel
theorem dX9_feed_33 : decode cX9_feed 33 = .ok (.ireturn, 1) := by decide +kernel
theorem dX9_feed_34 : decode cX9_feed 34 = .ok (.iload_n 3, 1) := by decide +kernel
theorem dX9_feed_35 : decode cX9_feed 35 = .ok (.iconst 1, 1) := by decide +kernel
theorem dX9_feed_36 : decode cX9_feed 36 = .ok (.isub, 1) := by decide +kernel
theorem dX9_feed_37 : decode cX9_feed 37 = .ok (.istore 4, 2) := by decide +kernel
theorem dX9_feed_39 : decode cX9_feed 39 = .ok (.iload 4, 2) := by decide +kernel
theorem dX9_feed_41 : decode cX9_feed 41 = .ok (.ifCond .lt 31, 3) := by decide +kernel
theorem dX9_feed_44 : decode cX9_feed 44 = .ok (.aload_n 0, 1) := by decide +kernel
theorem dX9_feed_45 : decode cX9_feed 45 = .ok (.getfield 14, 3) := by decide +kernel
theorem dX9_feed_48 : decode cX9_feed 48 = .ok (.getfield 63, 3) := by decide +kernel
theorem dX9_feed_51 : decode cX9_feed 51 = .ok (.lload_n 1, 1) := by decide +kernel
theorem dX9_feed_52 : decode cX9_feed 52 = .ok (.bipush 8, 2) := by decide +kernel
theorem dX9_feed_54 : decode cX9_feed 54 = .ok (.iload 4, 2) := by decide +kernel
theorem dX9_feed_56 : decode cX9_feed 56 = .ok (.imul, 1) := by decide +kernel
theorem dX9_feed_57 : decode cX9_feed 57 = .ok (.lshr, 1) := by decide +kernel
theorem dX9_feed_58 : decode cX9_feed 58 = .ok (.l2i, 1) := by decide +kernel
theorem dX9_feed_59 : decode cX9_feed 59 = .ok (.sipush 255, 3) := by decide +kernel
theorem dX9_feed_62 : decode cX9_feed 62 = .ok (.iand, 1) := by decide +kernel
theorem dX9_feed_63 : decode cX9_feed 63 = .ok (.invokevirtual 73, 3) := by decide +kernel
theorem dX9_feed_66 : decode cX9_feed 66 = .ok (.iinc 4 (-1), 3) := by decide +kernel
theorem dX9_feed_69 : decode cX9_feed 69 = .ok (.goto (-30), 3) := by decide +kernel
theorem dX9_feed_72 : decode cX9_feed 72 = .ok (.aload_n 0, 1) := by decide +kernel
theorem dX9_feed_73 : decode cX9_feed 73 = .ok (.getfield 14, 3) := by decide +kernel
theorem dX9_feed_76 : decode cX9_feed 76 = .ok (.getfield 63, 3) := by decide +kernel
theorem dX9_feed_79 : decode cX9_feed 79 = .ok (.getfield 67, 3) := by decide +kernel
theorem dX9_feed_82 : decode cX9_feed 82 = .ok (.ireturn, 1) := by decide +kernel
theorem dX9_house_0 : decode cX9_house 0 = .ok (.aload_n 0, 1) := by decide +kernel
theorem dX9_house_1 : decode cX9_house 1 = .ok (.getfield 14, 3) := by decide +kernel
theorem dX9_house_4 : decode cX9_house 4 = .ok (.getfield 77, 3) := by decide +kernel
theorem dX9_house_7 : decode cX9_house 7 = .ok (.iconst 5, 1) := by decide +kernel
theorem dX9_house_8 : decode cX9_house 8 = .ok (.if_icmp .lt 6, 3) := by decide +kernel
theorem dX9_house_11 : decode cX9_house 11 = .ok (.bipush (-4), 2) := by decide +kernel
theorem dX9_house_13 : decode cX9_house 13 = .ok (.ireturn, 1) := by decide +kernel
theorem dX9_house_14 : decode cX9_house 14 = .ok (.aload_n 0, 1) := by decide +kernel
theorem dX9_house_15 : decode cX9_house 15 = .ok (.getfield 28, 3) := by decide +kernel
theorem dX9_house_18 : decode cX9_house 18 = .ok (.aload_n 0, 1) := by decide +kernel
theorem dX9_house_19 : decode cX9_house 19 = .ok (.getfield 14, 3) := by decide +kernel
theorem dX9_house_22 : decode cX9_house 22 = .ok (.getfield 63, 3) := by decide +kernel
theorem dX9_house_25 : decode cX9_house 25 = .ok (.invokevirtual 80, 3) := by decide +kernel
theorem dX9_house_28 : decode cX9_house 28 = .ok (.istore_n 1, 1) := by decide +kernel
theorem dX9_house_29 : decode cX9_house 29 = .ok (.aload_n 0, 1) := by decide +kernel
theorem dX9_house_30 : decode cX9_house 30 = .ok (.getfield 14, 3) := by decide +kernel
theorem dX9_house_33 : decode cX9_house 33 = .ok (.getfield 63, 3) := by decide +kernel
theorem dX9_house_36 : decode cX9_house 36 = .ok (.iconst 0, 1) := by decide +kernel
theorem dX9_house_37 : decode cX9_house 37 = .ok (.putfield 67, 3) := by decide +kernel
theorem dX9_house_40 : decode cX9_house 40 = .ok (.iload_n 1, 1) := by decide +kernel
theorem dX9_house_41 : decode cX9_house 41 = .ok (.ifCond .ne 14, 3) := by decide +kernel
theorem dX9_house_44 : decode cX9_house 44 = .ok (.bipush (-10), 2) := by decide +kernel
theorem dX9_house_46 : decode cX9_house 46 = .ok (.aload_n 0, 1) := by decide +kernel
theorem dX9_house_47 : decode cX9_house 47 = .ok (.getfield 28, 3) := by decide +kernel
theorem dX9_house_50 : decode cX9_house 50 = .ok (.getfield 84, 3) := by decide +kernel
theorem dX9_house_53 : decode cX9_house 53 = .ok (.isub, 1) := by decide +kernel
theorem dX9_house_54 : decode cX9_house 54 = .ok (.ireturn, 1) := by decide +kernel
theorem dX9_house_55 : decode cX9_house 55 = .ok (.aload_n 0, 1) := by decide +kernel
theorem dX9_house_56 : decode cX9_house 56 = .ok (.getfield 14, 3) := by decide +kernel
theorem dX9_house_59 : decode cX9_house 59 = .ok (.getfield 87, 3) := by decide +kernel
theorem dX9_house_62 : decode cX9_house 62 = .ok (.aload_n 0, 1) := by decide +kernel
theorem dX9_house_63 : decode cX9_house 63 = .ok (.getfield 28, 3) := by decide +kernel
theorem dX9_house_66 : decode cX9_house 66 = .ok (.getfield 91, 3) := by decide +kernel
theorem dX9_house_69 : decode cX9_house 69 = .ok (.invokevirtual 94, 3) := by decide +kernel
theorem dX9_house_72 : decode cX9_house 72 = .ok (.aload_n 0, 1) := by decide +kernel
theorem dX9_house_73 : decode cX9_house 73 = .ok (.iconst 0, 1) := by decide +kernel
theorem dX9_house_74 : decode cX9_house 74 = .ok (.putfield 46, 3) := by decide +kernel
theorem dX9_house_77 : decode cX9_house 77 = .ok (.aload_n 0, 1) := by decide +kernel
theorem dX9_house_78 : decode cX9_house 78 = .ok (.getfield 14, 3) := by decide +kernel
theorem dX9_house_81 : decode cX9_house 81 = .ok (.dup, 1) := by decide +kernel
theorem dX9_house_82 : decode cX9_house 82 = .ok (.getfield 77, 3) := by decide +kernel
theorem dX9_house_85 : decode cX9_house 85 = .ok (.dup_x1, 1) := by decide +kernel
theorem dX9_house_86 : decode cX9_house 86 = .ok (.iconst 1, 1) := by decide +kernel
theorem dX9_house_87 : decode cX9_house 87 = .ok (.iadd, 1) := by decide +kernel
theorem dX9_house_88 : decode cX9_house 88 = .ok (.putfield 77, 3) := by decide +kernel
theorem dX9_house_91 : decode cX9_house 91 = .ok (.ireturn, 1) := by decide +kernel
theorem dX9_told_0 : decode cX9_told 0 = .ok (.iload_n 1, 1) := by decide +kernel
theorem dX9_told_1 : decode cX9_told 1 = .ok (.ifCond .lt 8, 3) := by decide +kernel
theorem dX9_told_4 : decode cX9_told 4 = .ok (.iload_n 1, 1) := by decide +kernel
theorem dX9_told_5 : decode cX9_told 5 = .ok (.iconst 5, 1) := by decide +kernel
theorem dX9_told_6 : decode cX9_told 6 = .ok (.if_icmp .lt 5, 3) := by decide +kernel
theorem dX9_told_9 : decode cX9_told 9 = .ok (.iconst (-1), 1) := by decide +kernel
theorem dX9_told_10 : decode cX9_told 10 = .ok (.ireturn, 1) := by decide +kernel
theorem dX9_told_11 : decode cX9_told 11 = .ok (.aload_n 0, 1) := by decide +kernel
theorem dX9_told_12 : decode cX9_told 12 = .ok (.getfield 14, 3) := by decide +kernel
theorem dX9_told_15 : decode cX9_told 15 = .ok (.getfield 87, 3) := by decide +kernel
theorem dX9_told_18 : decode cX9_told 18 = .ok (.getfield 100, 3) := by decide +kernel
theorem dX9_told_21 : decode cX9_told 21 = .ok (.iload_n 1, 1) := by decide +kernel
theorem dX9_told_22 : decode cX9_told 22 = .ok (.iaload, 1) := by decide +kernel
theorem dX9_told_23 : decode cX9_told 23 = .ok (.ireturn, 1) := by decide +kernel
theorem dX9_warmth_0 : decode cX9_warmth 0 = .ok (.iload_n 1, 1) := by decide +kernel
theorem dX9_warmth_1 : decode cX9_warmth 1 = .ok (.invokestatic 103, 3) := by decide +kernel
theorem dX9_warmth_4 : decode cX9_warmth 4 = .ok (.ifCond .ne 5, 3) := by decide +kernel
theorem dX9_warmth_7 : decode cX9_warmth 7 = .ok (.iconst (-1), 1) := by decide +kernel
theorem dX9_warmth_8 : decode cX9_warmth 8 = .ok (.ireturn, 1) := by decide +kernel
theorem dX9_warmth_9 : decode cX9_warmth 9 = .ok (.aload_n 0, 1) := by decide +kernel
theorem dX9_warmth_10 : decode cX9_warmth 10 = .ok (.invokevirtual 107, 3) := by decide +kernel
theorem dX9_warmth_13 : decode cX9_warmth 13 = .ok (.aload_n 0, 1) := by decide +kernel
theorem dX9_warmth_14 : decode cX9_warmth 14 = .ok (.getfield 35, 3) := by decide +kernel
theorem dX9_warmth_17 : decode cX9_warmth 17 = .ok (.getfield 110, 3) := by decide +kernel
theorem dX9_warmth_20 : decode cX9_warmth 20 = .ok (.iload_n 1, 1) := by decide +kernel
theorem dX9_warmth_21 : decode cX9_warmth 21 = .ok (.iaload, 1) := by decide +kernel
theorem dX9_warmth_22 : decode cX9_warmth 22 = .ok (.ireturn, 1) := by decide +kernel
theorem dX9_noise_0 : decode cX9_noise 0 = .ok (.iload_n 1, 1) := by decide +kernel
theorem dX9_noise_1 : decode cX9_noise 1 = .ok (.invokestatic 113, 3) := by decide +kernel
theorem dX9_noise_4 : decode cX9_noise 4 = .ok (.ifCond .eq 10, 3) := by decide +kernel
theorem dX9_noise_7 : decode cX9_noise 7 = .ok (.iload_n 2, 1) := by decide +kernel
theorem dX9_noise_8 : decode cX9_noise 8 = .ok (.invokestatic 116, 3) := by decide +kernel
theorem dX9_noise_11 : decode cX9_noise 11 = .ok (.ifCond .ne 5, 3) := by decide +kernel
theorem dX9_noise_14 : decode cX9_noise 14 = .ok (.iconst (-1), 1) := by decide +kernel
theorem dX9_noise_15 : decode cX9_noise 15 = .ok (.ireturn, 1) := by decide +kernel
theorem dX9_noise_16 : decode cX9_noise 16 = .ok (.iload_n 3, 1) := by decide +kernel
theorem dX9_noise_17 : decode cX9_noise 17 = .ok (.ifCond .lt 22, 3) := by decide +kernel
theorem dX9_noise_20 : decode cX9_noise 20 = .ok (.iload_n 3, 1) := by decide +kernel
theorem dX9_noise_21 : decode cX9_noise 21 = .ok (.bipush 9, 2) := by decide +kernel
theorem dX9_noise_23 : decode cX9_noise 23 = .ok (.if_icmp .gt 16, 3) := by decide +kernel
theorem dX9_noise_26 : decode cX9_noise 26 = .ok (.iload 4, 2) := by decide +kernel
theorem dX9_noise_28 : decode cX9_noise 28 = .ok (.iconst 1, 1) := by decide +kernel
theorem dX9_noise_29 : decode cX9_noise 29 = .ok (.if_icmp .lt 10, 3) := by decide +kernel
theorem dX9_noise_32 : decode cX9_noise 32 = .ok (.iload 4, 2) := by decide +kernel
theorem dX9_noise_34 : decode cX9_noise 34 = .ok (.bipush 40, 2) := by decide +kernel
theorem dX9_noise_36 : decode cX9_noise 36 = .ok (.if_icmp .le 6, 3) := by decide +kernel
theorem dX9_noise_39 : decode cX9_noise 39 = .ok (.bipush (-2), 2) := by decide +kernel
theorem dX9_noise_41 : decode cX9_noise 41 = .ok (.ireturn, 1) := by decide +kernel
theorem dX9_noise_42 : decode cX9_noise 42 = .ok (.aload_n 0, 1) := by decide +kernel
theorem dX9_noise_43 : decode cX9_noise 43 = .ok (.getfield 14, 3) := by decide +kernel
theorem dX9_noise_46 : decode cX9_noise 46 = .ok (.getfield 119, 3) := by decide +kernel
theorem dX9_noise_49 : decode cX9_noise 49 = .ok (.getfield 123, 3) := by decide +kernel
theorem dX9_noise_52 : decode cX9_noise 52 = .ok (.bipush 10, 2) := by decide +kernel
theorem dX9_noise_54 : decode cX9_noise 54 = .ok (.if_icmp .lt 6, 3) := by decide +kernel
theorem dX9_noise_57 : decode cX9_noise 57 = .ok (.bipush (-4), 2) := by decide +kernel
theorem dX9_noise_59 : decode cX9_noise 59 = .ok (.ireturn, 1) := by decide +kernel
theorem dX9_noise_60 : decode cX9_noise 60 = .ok (.aload_n 0, 1) := by decide +kernel
theorem dX9_noise_61 : decode cX9_noise 61 = .ok (.iconst 0, 1) := by decide +kernel
end
section
-- values as whole numbers, worlds by a layout, the rows over them
def kp_iv (x : Int) : Value := .int (Int32.ofInt x)
def kp_jv (x : Int) : Value := .long (Int64.ofInt x)
abbrev kp_W : Type := Nat → Nat → Int
abbrev kp_R : Type := Option (Int × kp_W)
abbrev kp_in (x : Int) : Prop := -2147483648 ≤ x ∧ x ≤ 2147483647
abbrev kp_inL (x : Int) : Prop := -9223372036854775808 ≤ x ∧ x ≤ 9223372036854775807
def kp_up (σ : kp_W) (k j : Nat) (x : Int) : kp_W := fun a b => if a = k ∧ b = j then x else σ a b
def kp_cp (σ : kp_W) (k1 : Nat) (f : Nat → Int) (sp dp n : Nat) : kp_W := fun a b => if a = k1 ∧ dp ≤ b ∧ b < dp + n then f (sp + (b - dp)) else σ a b
-- the words of the functional programs
def kp_ck (c : Prop) [Decidable c] (k : kp_R) : kp_R := if c then k else none
def kp_lt {τ : Type} (v : τ) (f : τ → kp_R) : kp_R := f v
def kp_jn {τ : Type} (f : τ) (g : τ → kp_R) : kp_R := g f
def kp_bd (x : kp_R) (f : Int → kp_W → kp_R) : kp_R := match x with
  | none => none
  | some p => f p.1 p.2
def kp_eq (x y : Int) (a b : kp_R) : kp_R := if kp_in x ∧ kp_in y then (if x = y then a else b) else none
def kp_ls (x y : Int) (a b : kp_R) : kp_R := if kp_in x ∧ kp_in y then (if x < y then a else b) else none
def kp_and (x y : Int) : Int := (Int32.ofInt x &&& Int32.ofInt y).toInt
def kp_or (x y : Int) : Int := (Int32.ofInt x ||| Int32.ofInt y).toInt
def kp_xor (x y : Int) : Int := (Int32.ofInt x ^^^ Int32.ofInt y).toInt
def kp_andL (x y : Int) : Int := (Int64.ofInt x &&& Int64.ofInt y).toInt
def kp_orL (x y : Int) : Int := (Int64.ofInt x ||| Int64.ofInt y).toInt
def kp_xorL (x y : Int) : Int := (Int64.ofInt x ^^^ Int64.ofInt y).toInt
def kp_cmp (x y : Int) : Int := if x < y then -1 else if x = y then 0 else 1
def kp_max (x y : Int) : Int := if x < y then y else x
def kp_min (x y : Int) : Int := if y < x then y else x
def kp_abs (x : Int) : Int := if 0 ≤ x then x else -x
theorem kp_ck_s {c : Prop} [Decidable c] {k : kp_R} {o : Int × kp_W} (h : kp_ck c k = some o) : c ∧ k = some o := by
  unfold kp_ck at h
  split at h
  · exact ⟨‹_›, h⟩
  · cases h
theorem kp_lt_s {τ : Type} {v : τ} {f : τ → kp_R} {o : Int × kp_W} (h : kp_lt v f = some o) : f v = some o := h
theorem kp_jn_s {τ : Type} {f : τ} {g : τ → kp_R} {o : Int × kp_W} (h : kp_jn f g = some o) : ∃ j, j = f ∧ g j = some o := ⟨f, rfl, h⟩
theorem kp_bd_s {x : kp_R} {f : Int → kp_W → kp_R} {o : Int × kp_W} (h : kp_bd x f = some o) : ∃ r σ, x = some (r, σ) ∧ f r σ = some o := by
  unfold kp_bd at h
  split at h
  · cases h
  · exact ⟨_, _, rfl, h⟩
theorem kp_eq_s {x y : Int} {a b : kp_R} {o : Int × kp_W} (h : kp_eq x y a b = some o) : kp_in x ∧ kp_in y ∧ (x = y → a = some o) ∧ (¬ x = y → b = some o) := by
  unfold kp_eq at h
  split at h
  · rename_i hi
    refine ⟨hi.1, hi.2, fun e => ?_, fun e => ?_⟩
    · rw [if_pos e] at h; exact h
    · rw [if_neg e] at h; exact h
  · cases h
theorem kp_ls_s {x y : Int} {a b : kp_R} {o : Int × kp_W} (h : kp_ls x y a b = some o) : kp_in x ∧ kp_in y ∧ (x < y → a = some o) ∧ (¬ x < y → b = some o) := by
  unfold kp_ls at h
  split at h
  · rename_i hi
    refine ⟨hi.1, hi.2, fun e => ?_, fun e => ?_⟩
    · rw [if_pos e] at h; exact h
    · rw [if_neg e] at h; exact h
  · cases h
-- numbers
theorem kp_ti {x : Int} (h : kp_in x) : (Int32.ofInt x).toInt = x := Int32.toInt_ofInt_of_le (by have := h.1; omega) (by have := h.2; omega)
theorem kp_tiL {x : Int} (h : kp_inL x) : (Int64.ofInt x).toInt = x := Int64.toInt_ofInt_of_le (by have := h.1; omega) (by have := h.2; omega)
theorem kp_cl {x : Int} (h : kp_in x) : (Int32.ofInt x).toNatClampNeg = x.toNat := by
  show (Int32.ofInt x).toInt.toNat = _
  rw [kp_ti h]
theorem kp_lt_i {x y : Int} (hx : kp_in x) (hy : kp_in y) : Int32.ofInt x < Int32.ofInt y ↔ x < y := by
  rw [Int32.lt_iff_toInt_lt, kp_ti hx, kp_ti hy]
theorem kp_le_i {x y : Int} (hx : kp_in x) (hy : kp_in y) : Int32.ofInt x ≤ Int32.ofInt y ↔ x ≤ y := by
  rw [Int32.le_iff_toInt_le, kp_ti hx, kp_ti hy]
theorem kp_eq_i {x y : Int} (hx : kp_in x) (hy : kp_in y) : Int32.ofInt x = Int32.ofInt y ↔ x = y := by
  rw [← Int32.toInt_inj, kp_ti hx, kp_ti hy]
theorem kp_0 : (0 : Int32) = Int32.ofInt 0 := rfl
theorem kp_in0 : kp_in 0 := by decide
theorem kp_vin {x n : Int} (h : 0 ≤ x ∧ x < n) (hn : n ≤ 2147483647) : vp_in (Int32.ofInt x) n.toNat := by
  rw [vp_in_iff, kp_ti ⟨by omega, by omega⟩]
  exact ⟨h.1, by omega⟩
theorem kp_clx {x n : Int} (h : 0 ≤ x ∧ x < n) (hn : n ≤ 2147483647) : (Int32.ofInt x).toNatClampNeg = x.toNat := kp_cl ⟨by omega, by omega⟩
theorem kp_toNat {x : Int} (h : 0 ≤ x) : ((x.toNat : Nat) : Int) = x := Int.toNat_of_nonneg h
theorem kp_nI {x : Int} (h : 0 ≤ x) : Int32.ofInt x = nI x.toNat := by
  unfold nI
  rw [← Int32.ofInt_eq_ofNat, kp_toNat h]
theorem kp_div {x y : Int} (hx : 0 ≤ x ∧ x ≤ 2147483647) (hy : 0 < y ∧ y ≤ 2147483647) : Int32.ofInt x / Int32.ofInt y = Int32.ofInt (x / y) := by
  have h0 : (0 : Int) ≤ x / y := Int.ediv_nonneg hx.1 (by omega)
  rw [kp_nI hx.1, kp_nI (x := y) (by omega), kp_nI h0, pk_div (by omega) (by omega) (by omega)]
  congr 1
  have e : x / y = ((x.toNat / y.toNat : Nat) : Int) := by
    rw [Int.natCast_ediv, kp_toNat hx.1, kp_toNat (x := y) (by omega)]
  rw [e]
  rfl
theorem kp_rem {x y : Int} (hx : 0 ≤ x ∧ x ≤ 2147483647) (hy : 0 < y ∧ y ≤ 2147483647) : Int32.ofInt x - Int32.ofInt x / Int32.ofInt y * Int32.ofInt y = Int32.ofInt (x % y) := by
  rw [kp_div hx hy, ← Int32.ofInt_mul, ← Int32.ofInt_sub]
  congr 1
  have := Int.emod_def x y
  rw [this, Int.mul_comm]
theorem kp_sh {y : Int} (h : 0 ≤ y ∧ y < 32) : ∃ n : Nat, n < 32 ∧ y = (n : Int) ∧ y.toNat = n ∧ ((Int32.ofInt y &&& 31).toBitVec.smod 32).toNat = n ∧ Int32.ofInt y &&& 31 = nI n := by
  obtain ⟨n, rfl⟩ := Int.eq_ofNat_of_zero_le h.1
  have hn : n < 32 := by omega
  have key : ∀ n : Nat, n < 32 → ((Int32.ofInt (n : Int) &&& 31).toBitVec.smod 32).toNat = n ∧ Int32.ofInt (n : Int) &&& 31 = nI n := by decide +kernel
  exact ⟨n, hn, rfl, rfl, (key n hn).1, (key n hn).2⟩
theorem kp_ishr {x y : Int} (hx : kp_in x) (hy : 0 ≤ y ∧ y < 32) : Int32.ofInt x >>> (Int32.ofInt y &&& 31) = Int32.ofInt (x / 2 ^ y.toNat) := by
  obtain ⟨n, hn, rfl, e, hs, -⟩ := kp_sh hy
  rw [← Int32.toInt_inj, pk_shr _ _ n hs, kp_ti hx, e, Int.shiftRight_eq_div_pow]
  have hp : (0 : Int) < 2 ^ n := Int.pow_pos (by decide)
  have b : kp_in (x / ((2 ^ n : Nat) : Int)) := by
    have e2 : ((2 ^ n : Nat) : Int) = 2 ^ n := by norm_cast
    rw [e2]
    refine ⟨?_, ?_⟩
    · refine Int.le_ediv_of_mul_le hp ?_
      have h1 : (1 : Int) ≤ 2 ^ n := hp
      have := hx.1
      have h2 : (-2147483648 : Int) * 2 ^ n ≤ -2147483648 * 1 := Int.mul_le_mul_of_nonpos_left (by decide) h1
      omega
    · have h3 : x / 2 ^ n ≤ 2147483647 / 2 ^ n := Int.ediv_le_ediv hp hx.2
      have h4 : (2147483647 : Int) / 2 ^ n ≤ 2147483647 := Int.ediv_le_self _ (by decide)
      omega
  have e2 : ((2 ^ n : Nat) : Int) = 2 ^ n := by norm_cast
  rw [e2] at b ⊢
  rw [kp_ti b]
theorem kp_ishl {x y : Int} (hy : 0 ≤ y ∧ y < 32) : Int32.ofInt x <<< (Int32.ofInt y &&& 31) = Int32.ofInt (x * 2 ^ y.toNat) := by
  obtain ⟨n, hn, rfl, e, hs, he⟩ := kp_sh hy
  rw [e]
  apply Int32.toBitVec.inj
  rw [Int32.toBitVec_shiftLeft, BitVec.shiftLeft_eq', hs, Int32.toBitVec_ofInt, Int32.toBitVec_ofInt, BitVec.shiftLeft_eq_mul_twoPow, BitVec.ofInt_mul]
  congr 1
  apply BitVec.eq_of_toNat_eq
  rw [BitVec.toNat_twoPow, BitVec.toNat_ofInt]
  have e3 : ((2 : Int) ^ n) = ((2 ^ n : Nat) : Int) := by norm_cast
  rw [e3]
  omega
theorem kp_shL {y : Int} (h : 0 ≤ y ∧ y < 64) : ∃ n : Nat, n < 64 ∧ y = (n : Int) ∧ y.toNat = n ∧ (((Int32.ofInt y).toInt64 &&& 63).toBitVec.smod 64).toNat = n := by
  obtain ⟨n, rfl⟩ := Int.eq_ofNat_of_zero_le h.1
  have hn : n < 64 := by omega
  have key : ∀ n : Nat, n < 64 → (((Int32.ofInt (n : Int)).toInt64 &&& 63).toBitVec.smod 64).toNat = n := by decide +kernel
  exact ⟨n, hn, rfl, rfl, key n hn⟩
theorem kp_lshl {x y : Int} (hy : 0 ≤ y ∧ y < 64) : Int64.ofInt x <<< ((Int32.ofInt y).toInt64 &&& 63) = Int64.ofInt (x * 2 ^ y.toNat) := by
  obtain ⟨n, hn, rfl, e, hs⟩ := kp_shL hy
  rw [e]
  apply Int64.toBitVec.inj
  rw [Int64.toBitVec_shiftLeft, BitVec.shiftLeft_eq', hs, Int64.toBitVec_ofInt, Int64.toBitVec_ofInt, BitVec.shiftLeft_eq_mul_twoPow, BitVec.ofInt_mul]
  congr 1
  apply BitVec.eq_of_toNat_eq
  rw [BitVec.toNat_twoPow, BitVec.toNat_ofInt]
  have e3 : ((2 : Int) ^ n) = ((2 ^ n : Nat) : Int) := by norm_cast
  rw [e3]
  omega
theorem kp_lshr {x y : Int} (hx : kp_inL x) (hy : 0 ≤ y ∧ y < 64) : Int64.ofInt x >>> ((Int32.ofInt y).toInt64 &&& 63) = Int64.ofInt (x / 2 ^ y.toNat) := by
  obtain ⟨n, hn, rfl, e, hs⟩ := kp_shL hy
  rw [e, ← Int64.toInt_inj]
  have hp : (0 : Int) < 2 ^ n := Int.pow_pos (by decide)
  have b : kp_inL (x / 2 ^ n) := by
    refine ⟨?_, ?_⟩
    · refine Int.le_ediv_of_mul_le hp ?_
      have h1 : (1 : Int) ≤ 2 ^ n := hp
      have := hx.1
      have h2 : (-9223372036854775808 : Int) * 2 ^ n ≤ -9223372036854775808 * 1 := Int.mul_le_mul_of_nonpos_left (by decide) h1
      omega
    · have h3 : x / 2 ^ n ≤ 9223372036854775807 / 2 ^ n := Int.ediv_le_ediv hp hx.2
      have h4 : (9223372036854775807 : Int) / 2 ^ n ≤ 9223372036854775807 := Int.ediv_le_self _ (by decide)
      omega
  rw [kp_tiL b]
  show (Int64.ofInt x >>> ((Int32.ofInt (n : Int)).toInt64 &&& 63)).toBitVec.toInt = _
  rw [Int64.toBitVec_shiftRight, BitVec.sshiftRight_eq', hs, BitVec.toInt_sshiftRight, Int.shiftRight_eq_div_pow]
  have e1 : (Int64.ofInt x).toBitVec.toInt = x := kp_tiL hx
  have e2 : ((2 ^ n : Nat) : Int) = 2 ^ n := by norm_cast
  rw [e1, e2]
theorem kp_lcmp {x y : Int} (hx : kp_inL x) (hy : kp_inL y) : lg_cmp (Int64.ofInt x) (Int64.ofInt y) = Int32.ofInt (kp_cmp x y) := by
  have h1 : Int64.ofInt x > Int64.ofInt y ↔ y < x := by
    show Int64.ofInt y < Int64.ofInt x ↔ _
    rw [Int64.lt_iff_toInt_lt, kp_tiL hx, kp_tiL hy]
  have h2 : Int64.ofInt x = Int64.ofInt y ↔ x = y := by rw [← Int64.toInt_inj, kp_tiL hx, kp_tiL hy]
  unfold lg_cmp kp_cmp
  by_cases a : y < x
  · rw [if_pos (h1.mpr a), if_neg (by omega), if_neg (by omega)]; rfl
  · rw [if_neg (fun z => a (h1.mp z))]
    by_cases b : x = y
    · rw [if_pos (h2.mpr b), if_neg (by omega), if_pos b]; rfl
    · rw [if_neg (fun z => b (h2.mp z)), if_pos (by omega)]; rfl
theorem kp_i2l {x : Int} (hx : kp_in x) : (Int32.ofInt x).toInt64 = Int64.ofInt x := by
  rw [← Int64.ofInt_int32ToInt, kp_ti hx]
theorem kp_and_i (x y : Int) : Int32.ofInt x &&& Int32.ofInt y = Int32.ofInt (kp_and x y) := (Int32.ofInt_toInt _).symm
theorem kp_or_i (x y : Int) : Int32.ofInt x ||| Int32.ofInt y = Int32.ofInt (kp_or x y) := (Int32.ofInt_toInt _).symm
theorem kp_xor_i (x y : Int) : Int32.ofInt x ^^^ Int32.ofInt y = Int32.ofInt (kp_xor x y) := (Int32.ofInt_toInt _).symm
theorem kp_and_l (x y : Int) : Int64.ofInt x &&& Int64.ofInt y = Int64.ofInt (kp_andL x y) := (Int64.ofInt_toInt _).symm
theorem kp_or_l (x y : Int) : Int64.ofInt x ||| Int64.ofInt y = Int64.ofInt (kp_orL x y) := (Int64.ofInt_toInt _).symm
theorem kp_xor_l (x y : Int) : Int64.ofInt x ^^^ Int64.ofInt y = Int64.ofInt (kp_xorL x y) := (Int64.ofInt_toInt _).symm
-- worlds
abbrev kp_D : Type := Nat × Nat × List (Option Nat)
def kp_fl (ad : Nat → Nat) (f : Nat → Int) : Nat → List (Option Nat) → List Value
  | _, [] => []
  | i, none :: l => kp_iv (f i) :: kp_fl ad f (i + 1) l
  | i, some r :: l => .ref (ad r) :: kp_fl ad f (i + 1) l
abbrev kp_X : Type := va_G × (Nat → Nat) × (Nat → ClassId) × (Nat → Nat) × (Nat → Nat) × (Nat → Nat)
def kp_ad (X : kp_X) : Nat → Nat := X.2.1
def kp_cy (X : kp_X) : Nat → ClassId := X.2.2.1
def kp_tt (X : kp_X) : Nat → Nat := X.2.2.2.1
def kp_sK (X : kp_X) : Nat → Nat := X.2.2.2.2.1
def kp_sV (X : kp_X) : Nat → Nat := X.2.2.2.2.2
def kp_ce (X : kp_X) (d : kp_D) (f : Nat → Int) : va_E := match d.1 with
  | 0 => .inr (d.2.1, kp_fl (kp_ad X) f 0 d.2.2)
  | 1 => .inl (kp_cy X 0, d.2.1, .inl fun j => Int32.ofInt (f j))
  | 2 => .inl (kp_cy X 1, d.2.1, .inr (.inl fun j => Int64.ofInt (f j)))
  | _ => .inl (kp_cy X 2, d.2.1, .inl fun j => Int32.ofInt (f j))
def kp_ws (X : kp_X) (lay : Nat → kp_D) (N : Nat) (σ : kp_W) : va_W := (List.range N).map fun k => (kp_ad X k, kp_ce X (lay k) (σ k))
def kp_A (X : kp_X) (N : Nat) : Nat → Prop := fun q => ∃ k, k < N ∧ q = kp_ad X k
def kp_inj (X : kp_X) (N : Nat) : Prop := ∀ i j, i < N → j < N → kp_ad X i = kp_ad X j → i = j
def kp_tys (X : kp_X) : List (ClassId × FieldType) := [(kp_cy X 0, .int), (kp_cy X 1, .long), (kp_cy X 2, .boolean)]
def kp_tn : Nat → String × String := fun i => match i with
  | 0 => ("KnockPipes", "WITHOUT")
  | 1 => ("KnockPipes", "ABOVE")
  | _ => ("KnockPipes$Acts", "BODIES")
def kp_tb : Nat → List Int := fun i => match i with
  | 0 => [3, 1, 1, 4, 1]
  | 1 => [-1, 0, 0, 0, 1, 2, 3]
  | _ => [1, 2, 3, 11, 0, 0, 0, 21, 0, 0, 0, 31, 0, 0, 41, 51, 0, 0, 0, 61, 0]
def kp_st : List (List Nat) := [[110, 112, 107, 118, 116], [60, 61, 62], [103, 114, 111, 119, 32, 104, 111, 108, 100, 32, 119, 97, 114, 109, 32, 99, 111, 111, 108, 32, 105, 114, 111, 110, 32, 97, 105, 114, 32, 32, 104, 101, 97, 114, 32], [111, 108, 100, 32], [101, 97, 114, 32], [103, 114, 111, 119, 32], [119, 97, 114, 109, 32], [99, 111, 111, 108, 32], [105, 114, 111, 110, 32], [97, 105, 114, 32]]
def kp_len : List Nat := kp_st.map List.length
def kp_byt : List (List Int32) := kp_st.map fun l => l.map Int32.ofNat
def kp_sr : List (String × Nat × String × Nat) := [("KnockPipes$Reader", 98, "npkvt", 0), ("KnockPipes$Reader", 104, "<=>", 1), ("KnockPipes$Reader", 72, "grow hold warm cool iron air  hear ", 2), ("KnockPipesModel", 94, "npkvt", 0), ("KnockPipesModel", 100, "<=>", 1), ("KnockPipesModel", 112, "old ", 3), ("KnockPipesModel", 118, "ear ", 4), ("KnockPipesModel", 123, "grow ", 5), ("KnockPipesModel", 128, "warm ", 6), ("KnockPipesModel", 130, "cool ", 7), ("KnockPipesModel", 132, "iron ", 8), ("KnockPipesModel", 134, "air ", 9)]
def kp_nm : List (String × Nat × MethodName × String) := [("KnockPipes", 13, yX1_init, "KnockPipes"), ("KnockPipes", 27, yX5_init, "KnockPipes"), ("KnockPipes", 34, yX6_init, "KnockPipes"), ("KnockPipes", 41, yX0_init, "KnockPipes"), ("KnockPipes$Acts", 38, yX9_isKind, "KnockPipes"), ("KnockPipes$Home", 17, yX7_init, "KnockPipes"), ("KnockPipes$Home", 31, yX3_init, "KnockPipes"), ("KnockPipes$Home", 38, yX4_init, "KnockPipes"), ("KnockPipes$Reader", 20, yX7_init, "KnockPipes")]
def kp_nf : List (String × Nat × String × String × String × String) := [("KnockPipes$Acts", 45, "KnockPipes", "ABOVE", "[I", "KnockPipes"), ("KnockPipes$House", 38, "KnockPipes", "WITHOUT", "[I", "KnockPipes")]
def kp_ST (X : kp_X) (A : Nat → Prop) (U : State) (H : Heap) : Prop :=
  (∀ i, i < 3 → va_Z (kp_tn i).1 (kp_tn i).2 "[I" (.ref (kp_tt X i)) A U H ∧ va_T .int (kp_tt X i) (kp_tb i).length (fun j => kp_iv ((kp_tb i).getD j 0)) A U H) ∧
  vk_S 10 kp_len kp_byt (kp_sK X) (kp_sV X) A U H ∧ va_Z "java/lang/String" "COMPACT_STRINGS" "Z" (.int 1) A U H ∧
  va_Zq "jdk/internal/util/Preconditions" "SIOOBE_FORMATTER" "Ljava/util/function/BiFunction;" A U H ∧
  (∀ q ∈ kp_sr, vk_R q.1 q.2.1 q.2.2.1 (kp_sK X q.2.2.2) U) ∧ (∀ q ∈ kp_nm, va_Nw (.methodLinkNest q.1 q.2.1 q.2.2.1 q.2.2.2) U) ∧
  ∀ q ∈ kp_nf, va_Nw (.fieldLinkNest q.1 q.2.1 q.2.2.1 q.2.2.2.1 q.2.2.2.2.1 q.2.2.2.2.2) U
def kp_G (X : kp_X) (N : Nat) (s : State) : Prop := va_K X.1 vwCl (kp_tys X) s ∧ kp_inj X N ∧ kp_ST X (kp_A X N) s s.heap
def kp_H (X : kp_X) (lay : Nat → kp_D) (N : Nat) (s : State) (σ : kp_W) (H : Heap) (locs : List Loc) : Prop := va_P X.1 vwCl (kp_ws X lay N σ) H ∧ va_S (kp_A X N) s.heap H locs
def kp_B (X : kp_X) (lay : Nat → kp_D) (N : Nat) (σ : kp_W) (U : State) : Prop := va_P X.1 vwCl (kp_ws X lay N σ) U.heap ∧ kp_G X N U
theorem kp_ws_at {X : kp_X} {lay : Nat → kp_D} {N : Nat} {σ : kp_W} {k : Nat} (h : k < N) : (kp_ws X lay N σ)[k]? = some (kp_ad X k, kp_ce X (lay k) (σ k)) := by
  unfold kp_ws
  rw [List.getElem?_map, List.getElem?_range h]
  rfl
theorem kp_ws_some {X : kp_X} {lay : Nat → kp_D} {N : Nat} {σ : kp_W} {k : Nat} {q : Nat × va_E} (h : (kp_ws X lay N σ)[k]? = some q) : k < N ∧ q = (kp_ad X k, kp_ce X (lay k) (σ k)) := by
  have hk : k < N := by
    have := (List.getElem?_eq_some_iff.mp h).1
    simpa [kp_ws] using this
  rw [kp_ws_at hk] at h
  exact ⟨hk, (Option.some.inj h).symm⟩
theorem kp_ws_len {X : kp_X} {lay : Nat → kp_D} {N : Nat} {σ : kp_W} : (kp_ws X lay N σ).length = N := by simp [kp_ws]
theorem kp_ws_set {X : kp_X} {lay : Nat → kp_D} {N : Nat} {σ σ' : kp_W} {k : Nat} {e : va_E} (hk : k < N) (he : kp_ce X (lay k) (σ' k) = e) (hne : ∀ j, j ≠ k → σ' j = σ j) : (kp_ws X lay N σ).set k (kp_ad X k, e) = kp_ws X lay N σ' := by
  apply List.ext_getElem?
  intro i
  by_cases hi : i = k
  · subst hi
    rw [List.getElem?_set_self (by rw [kp_ws_len]; exact hk), kp_ws_at hk, he]
  · rw [List.getElem?_set_ne (Ne.symm hi)]
    by_cases hN : i < N
    · rw [kp_ws_at hN, kp_ws_at hN, hne i hi]
    · rw [List.getElem?_eq_none (by rw [kp_ws_len]; omega), List.getElem?_eq_none (by rw [kp_ws_len]; omega)]
theorem kp_up_ne {σ : kp_W} {k i j : Nat} {x : Int} (h : j ≠ k) : kp_up σ k i x j = σ j := by
  funext b
  unfold kp_up
  rw [if_neg (fun z => h z.1)]
theorem kp_up_eq {σ : kp_W} {k i j : Nat} {x : Int} : kp_up σ k i x k j = if j = i then x else σ k j := by
  unfold kp_up
  by_cases h : j = i
  · rw [if_pos ⟨rfl, h⟩, if_pos h]
  · rw [if_neg (fun z => h z.2), if_neg h]
theorem kp_cp_ne {σ : kp_W} {k : Nat} {f : Nat → Int} {sp dp n j : Nat} (h : j ≠ k) : kp_cp σ k f sp dp n j = σ j := by
  funext b
  unfold kp_cp
  rw [if_neg (fun z => h z.1)]
theorem kp_cp_eq {σ : kp_W} {k : Nat} {f : Nat → Int} {sp dp n j : Nat} : kp_cp σ k f sp dp n k j = if dp ≤ j ∧ j < dp + n then f (sp + (j - dp)) else σ k j := by
  unfold kp_cp
  by_cases h : dp ≤ j ∧ j < dp + n
  · rw [if_pos ⟨rfl, h⟩, if_pos h]
  · rw [if_neg (fun z => h z.2), if_neg h]
theorem kp_ws_D {X : kp_X} {lay : Nat → kp_D} {N : Nat} {σ : kp_W} (hi : kp_inj X N) : va_D (kp_A X N) (kp_ws X lay N σ) := by
  refine ⟨fun i j p q h1 h2 h3 => ?_, fun k q h => ?_⟩
  · obtain ⟨a, rfl⟩ := kp_ws_some h1
    obtain ⟨b, rfl⟩ := kp_ws_some h2
    exact hi i j a b h3
  · obtain ⟨a, rfl⟩ := kp_ws_some h
    exact ⟨k, a, rfl⟩
theorem kp_fl_get (ad : Nat → Nat) (f : Nat → Int) : ∀ (l : List (Option Nat)) (i j : Nat), (kp_fl ad f i l)[j]? = (l[j]?).map (fun o => match o with | none => kp_iv (f (i + j)) | some r => .ref (ad r))
  | [], i, j => by simp [kp_fl]
  | none :: l, i, 0 => by simp [kp_fl]
  | some r :: l, i, 0 => by simp [kp_fl]
  | none :: l, i, j + 1 => by
    rw [kp_fl, List.getElem?_cons_succ, List.getElem?_cons_succ, kp_fl_get ad f l (i + 1) j, show i + 1 + j = i + (j + 1) by omega]
  | some r :: l, i, j + 1 => by
    rw [kp_fl, List.getElem?_cons_succ, List.getElem?_cons_succ, kp_fl_get ad f l (i + 1) j, show i + 1 + j = i + (j + 1) by omega]
theorem kp_fl_len (ad : Nat → Nat) (f : Nat → Int) : ∀ (l : List (Option Nat)) (i : Nat), (kp_fl ad f i l).length = l.length
  | [], i => rfl
  | none :: l, i => by rw [kp_fl, List.length_cons, List.length_cons, kp_fl_len ad f l (i + 1)]
  | some r :: l, i => by rw [kp_fl, List.length_cons, List.length_cons, kp_fl_len ad f l (i + 1)]
theorem kp_fl_set {ad : Nat → Nat} {σ : kp_W} {k j : Nat} {x : Int} {rs : List (Option Nat)} (hr : rs[j]? = some none) : kp_fl ad (kp_up σ k j x k) 0 rs = (kp_fl ad (σ k) 0 rs).set j (kp_iv x) := by
  have hj : j < rs.length := (List.getElem?_eq_some_iff.mp hr).1
  apply List.ext_getElem?
  intro i
  by_cases hi : i = j
  · subst hi
    rw [List.getElem?_set_self (by rw [kp_fl_len]; exact hj), kp_fl_get, hr]
    simp [kp_up_eq]
  · rw [List.getElem?_set_ne (Ne.symm hi), kp_fl_get, kp_fl_get]
    congr 1
    funext o
    cases o with
    | none => simp [kp_up_eq, hi]
    | some r => rfl
theorem kp_ST.kept {X : kp_X} {A : Nat → Prop} {U : State} {H H1 : Heap} (h : kp_ST X A U H) (hq : ∀ a : Nat, a < H.size → ¬ A a → H1[a]? = H[a]?) : kp_ST X A U H1 := by
  obtain ⟨h1, h2, h3, h4, h5, h6, h7⟩ := h
  refine ⟨fun i hi => ⟨(h1 i hi).1.kept hq, (h1 i hi).2.kept hq⟩, h2.kept hq, h3.kept hq, h4.kept hq, h5, h6, h7⟩
theorem kp_ST.warm {X : kp_X} {A : Nat → Prop} {u U : State} {H : Heap} (hW : u.WarmedH U.vm) (h : kp_ST X A u H) : kp_ST X A U H := by
  obtain ⟨h1, h2, h3, h4, h5, h6, h7⟩ := h
  refine ⟨fun i hi => ⟨(h1 i hi).1.moved hW.alike, (h1 i hi).2.moved hW.alike⟩, h2.moved hW.alike, h3.moved hW.alike, h4.moved hW.alike, fun q hq => (h5 q hq).warm hW, fun q hq => (h6 q hq).warmM hW, fun q hq => (h7 q hq).warmF hW⟩
theorem kp_ST.same {X : kp_X} {A : Nat → Prop} {u U : State} {H : Heap} (hv : U.vm = u.vm) (h : kp_ST X A u H) : kp_ST X A U H := by
  obtain ⟨h1, h2, h3, h4, h5, h6, h7⟩ := h
  have ha : u.vm.Alike U.vm := by rw [hv]; exact Vm.Alike.refl u.vm
  refine ⟨fun i hi => ⟨(h1 i hi).1.moved ha, (h1 i hi).2.moved ha⟩, h2.moved ha, h3.moved ha, h4.moved ha, fun q hq => (h5 q hq).same hv, fun q hq => (h6 q hq).same rfl hv.symm, fun q hq => (h7 q hq).same rfl hv.symm⟩
theorem kp_B_blind {X : kp_X} {lay : Nat → kp_D} {N : Nat} {σ : kp_W} {av : List Value} : FrameBlind (va_Pc av (kp_B X lay N σ)) := by
  intro a U g mk h
  obtain ⟨h1, hP, hK, hi, hT⟩ := h
  exact ⟨h1, hP, va_K.moved (u := U) (U := U.calling g mk a) (Vm.Alike.refl U.vm) hK, hi, hT.same (u := U) (U := U.calling g mk a) rfl⟩
theorem kp_B_of {X : kp_X} {lay : Nat → kp_D} {N : Nat} {s U : State} {σ : kp_W} {H : Heap} {locs : List Loc} (G : kp_G X N s) (h : kp_H X lay N s σ H locs) (hU : U.heap = H) (hW : s.WarmedH U.vm) : kp_B X lay N σ U := by
  refine ⟨by rw [hU]; exact h.1, va_K.moved hW.alike G.1, G.2.1, ?_⟩
  rw [hU]
  exact (G.2.2.warm hW).kept (fun a ha hA => h.2.2.1 a ha hA)
end
section
section KPR
variable {p : Program} {l : Launch} {e : Env} {R : Room} {s : State} {m : MethodId} {args : Array Value} {below : List Frame} {meth : Method} {c : Code} {H : Heap} {locs : List Loc} {Q : State → Prop}
variable {cc : ByteArray} {nL : Nat} {own : String} {pc : Nat} {ls : Array Slot} {rest : List Value} {X : kp_X} {lay : Nat → kp_D} {N : Nat} {σ : kp_W} {o : Int × kp_W}

theorem kp_iconst (C : CallFix p m c cc nL s args kp_wl own) {n : Int} (hdg : decode cc pc = .ok (.iconst n, 1)) (k : W p l e R s m args below meth c H locs 0 0 Q (F0 m (pc + 1) ls (kp_iv n :: rest))) : W p l e R s m args below meth c H locs 0 0 Q (F0 m pc ls rest) := lv_iconst C.1 C.2.1 hdg rfl k
theorem kp_bipush (C : CallFix p m c cc nL s args kp_wl own) {n : Int} (hdg : decode cc pc = .ok (.bipush n, 2)) (hv : (Int8.ofInt n).toInt32 = Int32.ofInt n) (k : W p l e R s m args below meth c H locs 0 0 Q (F0 m (pc + 2) ls (kp_iv n :: rest))) : W p l e R s m args below meth c H locs 0 0 Q (F0 m pc ls rest) := lv_bipush C.1 C.2.1 hdg hv k
theorem kp_sipush (C : CallFix p m c cc nL s args kp_wl own) {n : Int} (hdg : decode cc pc = .ok (.sipush n, 3)) (hv : (Int16.ofInt n).toInt32 = Int32.ofInt n) (k : W p l e R s m args below meth c H locs 0 0 Q (F0 m (pc + 3) ls (kp_iv n :: rest))) : W p l e R s m args below meth c H locs 0 0 Q (F0 m pc ls rest) := lv_sipush C.1 C.2.1 hdg hv k
theorem kp_lconst (C : CallFix p m c cc nL s args kp_wl own) {n : Fin 2} {v : Int} (hdg : decode cc pc = .ok (.lconst n, 1)) (hv : Int64.ofNat (n : Nat) = Int64.ofInt v) (k : W p l e R s m args below meth c H locs 0 0 Q (F0 m (pc + 1) ls (kp_jv v :: rest))) : W p l e R s m args below meth c H locs 0 0 Q (F0 m pc ls rest) := lv_lconst C.1 C.2.1 hdg hv k
theorem kp_ldc2 (C : CallFix p m c cc nL s args kp_wl own) {index : Nat} {v : Int64} {n : Int} (hq : Cond.constantLong own index v ∈ kp_wl) (hv : v = Int64.ofInt n) (hdg : decode cc pc = .ok (.ldc2_w index, 3)) (k : W p l e R s m args below meth c H locs 0 0 Q (F0 m (pc + 3) ls (kp_jv n :: rest))) : W p l e R s m args below meth c H locs 0 0 Q (F0 m pc ls rest) := lv_ldc2 C.1 C.2.1 C.2.2.2.1 (C.2.2.2.2 _ hq) hdg (by rw [hv]; exact k)
theorem kp_iload (C : CallFix p m c cc nL s args kp_wl own) {i : Nat} {x : Int} (hdg : decode cc pc = .ok (.iload i, 2)) (hl : ls[i]? = some (.val (kp_iv x))) (k : W p l e R s m args below meth c H locs 0 0 Q (F0 m (pc + 2) ls (kp_iv x :: rest))) : W p l e R s m args below meth c H locs 0 0 Q (F0 m pc ls rest) := lv_iload C.1 C.2.1 hdg hl k
theorem kp_iload_n (C : CallFix p m c cc nL s args kp_wl own) {j : Fin 4} {i : Nat} {x : Int} (hdg : decode cc pc = .ok (.iload_n j, 1)) (hi : (j : Nat) = i) (hl : ls[i]? = some (.val (kp_iv x))) (k : W p l e R s m args below meth c H locs 0 0 Q (F0 m (pc + 1) ls (kp_iv x :: rest))) : W p l e R s m args below meth c H locs 0 0 Q (F0 m pc ls rest) := lv_iload_n C.1 C.2.1 hdg hi hl k
theorem kp_lload (C : CallFix p m c cc nL s args kp_wl own) {i : Nat} {x : Int} (hdg : decode cc pc = .ok (.lload i, 2)) (hl : ls[i]? = some (.val (kp_jv x))) (k : W p l e R s m args below meth c H locs 0 0 Q (F0 m (pc + 2) ls (kp_jv x :: rest))) : W p l e R s m args below meth c H locs 0 0 Q (F0 m pc ls rest) := lv_lload C.1 C.2.1 hdg hl k
theorem kp_lload_n (C : CallFix p m c cc nL s args kp_wl own) {j : Fin 4} {i : Nat} {x : Int} (hdg : decode cc pc = .ok (.lload_n j, 1)) (hi : (j : Nat) = i) (hl : ls[i]? = some (.val (kp_jv x))) (k : W p l e R s m args below meth c H locs 0 0 Q (F0 m (pc + 1) ls (kp_jv x :: rest))) : W p l e R s m args below meth c H locs 0 0 Q (F0 m pc ls rest) := lv_lload_n C.1 C.2.1 hdg hi hl k
theorem kp_aload (C : CallFix p m c cc nL s args kp_wl own) {i : Nat} {x : Nat} (hdg : decode cc pc = .ok (.aload i, 2)) (hl : ls[i]? = some (.val (.ref x))) (k : W p l e R s m args below meth c H locs 0 0 Q (F0 m (pc + 2) ls (.ref x :: rest))) : W p l e R s m args below meth c H locs 0 0 Q (F0 m pc ls rest) := lv_aload C.1 C.2.1 hdg hl k
theorem kp_aload_n (C : CallFix p m c cc nL s args kp_wl own) {j : Fin 4} {i : Nat} {x : Nat} (hdg : decode cc pc = .ok (.aload_n j, 1)) (hi : (j : Nat) = i) (hl : ls[i]? = some (.val (.ref x))) (k : W p l e R s m args below meth c H locs 0 0 Q (F0 m (pc + 1) ls (.ref x :: rest))) : W p l e R s m args below meth c H locs 0 0 Q (F0 m pc ls rest) := lv_aload_n C.1 C.2.1 hdg hi hl k
theorem kp_istore (C : CallFix p m c cc nL s args kp_wl own) {i : Nat} {v : Int} {f : Int → kp_R} {lv : List (Nat × Value)} {lv' : Int → List (Nat × Value)} (hdg : decode cc pc = .ok (.istore i, 2)) (hl : lv_has ls nL lv) (hn : i < nL) (he : ∀ x : Int, (i, kp_iv x) :: lv.filter (fun q => !(q.1 == i) && !(q.1 + 1 == i && q.2.category == 2)) = lv' x) (hF : kp_lt v f = some o) (kk : ∀ (x : Int) (ls' : Array Slot), lv_has ls' nL (lv' x) → f x = some o → W p l e R s m args below meth c H locs 0 0 Q (F0 m (pc + 2) ls' rest)) : W p l e R s m args below meth c H locs 0 0 Q (F0 m pc ls (kp_iv v :: rest)) := lv_istore C.1 C.2.1 hdg hl hn (he v) (fun ls' hl' => kk v ls' hl' hF)
theorem kp_istore_n (C : CallFix p m c cc nL s args kp_wl own) {j : Fin 4} {i : Nat} {v : Int} {f : Int → kp_R} {lv : List (Nat × Value)} {lv' : Int → List (Nat × Value)} (hdg : decode cc pc = .ok (.istore_n j, 1)) (hi : (j : Nat) = i) (hl : lv_has ls nL lv) (hn : i < nL) (he : ∀ x : Int, (i, kp_iv x) :: lv.filter (fun q => !(q.1 == i) && !(q.1 + 1 == i && q.2.category == 2)) = lv' x) (hF : kp_lt v f = some o) (kk : ∀ (x : Int) (ls' : Array Slot), lv_has ls' nL (lv' x) → f x = some o → W p l e R s m args below meth c H locs 0 0 Q (F0 m (pc + 1) ls' rest)) : W p l e R s m args below meth c H locs 0 0 Q (F0 m pc ls (kp_iv v :: rest)) := lv_istore_n C.1 C.2.1 hdg hi hl hn (he v) (fun ls' hl' => kk v ls' hl' hF)
theorem kp_lstore (C : CallFix p m c cc nL s args kp_wl own) {i : Nat} {v : Int} {f : Int → kp_R} {lv : List (Nat × Value)} {lv' : Int → List (Nat × Value)} (hdg : decode cc pc = .ok (.lstore i, 2)) (hl : lv_has ls nL lv) (hn : i + 1 < nL) (he : ∀ x : Int, (i, kp_jv x) :: lv.filter (fun q => !(q.1 == i) && (!(q.1 == i + 1) && !(q.1 + 1 == i && q.2.category == 2))) = lv' x) (hF : kp_lt v f = some o) (kk : ∀ (x : Int) (ls' : Array Slot), lv_has ls' nL (lv' x) → f x = some o → W p l e R s m args below meth c H locs 0 0 Q (F0 m (pc + 2) ls' rest)) : W p l e R s m args below meth c H locs 0 0 Q (F0 m pc ls (kp_jv v :: rest)) := lv_lstore C.1 C.2.1 hdg hl hn (he v) (fun ls' hl' => kk v ls' hl' hF)
theorem kp_lstore_n (C : CallFix p m c cc nL s args kp_wl own) {j : Fin 4} {i : Nat} {v : Int} {f : Int → kp_R} {lv : List (Nat × Value)} {lv' : Int → List (Nat × Value)} (hdg : decode cc pc = .ok (.lstore_n j, 1)) (hi : (j : Nat) = i) (hl : lv_has ls nL lv) (hn : i + 1 < nL) (he : ∀ x : Int, (i, kp_jv x) :: lv.filter (fun q => !(q.1 == i) && (!(q.1 == i + 1) && !(q.1 + 1 == i && q.2.category == 2))) = lv' x) (hF : kp_lt v f = some o) (kk : ∀ (x : Int) (ls' : Array Slot), lv_has ls' nL (lv' x) → f x = some o → W p l e R s m args below meth c H locs 0 0 Q (F0 m (pc + 1) ls' rest)) : W p l e R s m args below meth c H locs 0 0 Q (F0 m pc ls (kp_jv v :: rest)) := lv_lstore_n C.1 C.2.1 hdg hi hl hn (he v) (fun ls' hl' => kk v ls' hl' hF)
theorem kp_astore_n (C : CallFix p m c cc nL s args kp_wl own) {j : Fin 4} {i : Nat} {x : Nat} {lv lv' : List (Nat × Value)} (hdg : decode cc pc = .ok (.astore_n j, 1)) (hi : (j : Nat) = i) (hl : lv_has ls nL lv) (hn : i < nL) (he : (i, Value.ref x) :: lv.filter (fun q => !(q.1 == i) && !(q.1 + 1 == i && q.2.category == 2)) = lv') (kk : ∀ ls' : Array Slot, lv_has ls' nL lv' → W p l e R s m args below meth c H locs 0 0 Q (F0 m (pc + 1) ls' rest)) : W p l e R s m args below meth c H locs 0 0 Q (F0 m pc ls (.ref x :: rest)) := lv_astore_n C.1 C.2.1 hdg hi hl hn he kk
theorem kp_iinc (C : CallFix p m c cc nL s args kp_wl own) {i k : Nat} {n v : Int} {f : Int → kp_R} {lv : List (Nat × Value)} {lv' : Int → List (Nat × Value)} (hdg : decode cc pc = .ok (.iinc i n, 3)) (hl : lv_has ls nL lv) (hk : lv[k]? = some (i, kp_iv v)) (hn : i < nL) (he : ∀ x : Int, (i, kp_iv x) :: lv.filter (fun q => !(q.1 == i) && !(q.1 + 1 == i && q.2.category == 2)) = lv' x) (hF : kp_lt (v + n) f = some o) (kk : ∀ (x : Int) (ls' : Array Slot), lv_has ls' nL (lv' x) → f x = some o → W p l e R s m args below meth c H locs 0 0 Q (F0 m (pc + 3) ls' rest)) : W p l e R s m args below meth c H locs 0 0 Q (F0 m pc ls rest) := lv_iinc C.1 C.2.1 hdg hl hk (Int32.ofInt_add v n).symm hn (he (v + n)) (fun ls' hl' => kk _ ls' hl' hF)
theorem kp_iadd (C : CallFix p m c cc nL s args kp_wl own) {x y : Int} (hdg : decode cc pc = .ok (.iadd, 1)) (k : W p l e R s m args below meth c H locs 0 0 Q (F0 m (pc + 1) ls (kp_iv (x + y) :: rest))) : W p l e R s m args below meth c H locs 0 0 Q (F0 m pc ls (kp_iv y :: kp_iv x :: rest)) := lv_iadd C.1 C.2.1 hdg (by have k := k; unfold kp_iv at k; rw [(Int32.ofInt_add x y)] at k; exact k)
theorem kp_isub (C : CallFix p m c cc nL s args kp_wl own) {x y : Int} (hdg : decode cc pc = .ok (.isub, 1)) (k : W p l e R s m args below meth c H locs 0 0 Q (F0 m (pc + 1) ls (kp_iv (x - y) :: rest))) : W p l e R s m args below meth c H locs 0 0 Q (F0 m pc ls (kp_iv y :: kp_iv x :: rest)) := lv_isub C.1 C.2.1 hdg (by have k := k; unfold kp_iv at k; rw [(Int32.ofInt_sub x y)] at k; exact k)
theorem kp_imul (C : CallFix p m c cc nL s args kp_wl own) {x y : Int} (hdg : decode cc pc = .ok (.imul, 1)) (k : W p l e R s m args below meth c H locs 0 0 Q (F0 m (pc + 1) ls (kp_iv (x * y) :: rest))) : W p l e R s m args below meth c H locs 0 0 Q (F0 m pc ls (kp_iv y :: kp_iv x :: rest)) := lv_imul C.1 C.2.1 hdg (by have k := k; unfold kp_iv at k; rw [(Int32.ofInt_mul x y)] at k; exact k)
theorem kp_xiand (C : CallFix p m c cc nL s args kp_wl own) {x y : Int} (hdg : decode cc pc = .ok (.iand, 1)) (k : W p l e R s m args below meth c H locs 0 0 Q (F0 m (pc + 1) ls (kp_iv (kp_and x y) :: rest))) : W p l e R s m args below meth c H locs 0 0 Q (F0 m pc ls (kp_iv y :: kp_iv x :: rest)) := lv_iand C.1 C.2.1 hdg (by have k := k; unfold kp_iv at k; rw [(kp_and_i x y).symm] at k; exact k)
theorem kp_xior (C : CallFix p m c cc nL s args kp_wl own) {x y : Int} (hdg : decode cc pc = .ok (.ior, 1)) (k : W p l e R s m args below meth c H locs 0 0 Q (F0 m (pc + 1) ls (kp_iv (kp_or x y) :: rest))) : W p l e R s m args below meth c H locs 0 0 Q (F0 m pc ls (kp_iv y :: kp_iv x :: rest)) := lv_ior C.1 C.2.1 hdg (by have k := k; unfold kp_iv at k; rw [(kp_or_i x y).symm] at k; exact k)
theorem kp_xixor (C : CallFix p m c cc nL s args kp_wl own) {x y : Int} (hdg : decode cc pc = .ok (.ixor, 1)) (k : W p l e R s m args below meth c H locs 0 0 Q (F0 m (pc + 1) ls (kp_iv (kp_xor x y) :: rest))) : W p l e R s m args below meth c H locs 0 0 Q (F0 m pc ls (kp_iv y :: kp_iv x :: rest)) := lv_ixor C.1 C.2.1 hdg (by have k := k; unfold kp_iv at k; rw [(kp_xor_i x y).symm] at k; exact k)
theorem kp_xladd (C : CallFix p m c cc nL s args kp_wl own) {x y : Int} (hdg : decode cc pc = .ok (.ladd, 1)) (k : W p l e R s m args below meth c H locs 0 0 Q (F0 m (pc + 1) ls (kp_jv (x + y) :: rest))) : W p l e R s m args below meth c H locs 0 0 Q (F0 m pc ls (kp_jv y :: kp_jv x :: rest)) := lv_ladd C.1 C.2.1 hdg (by have k := k; unfold kp_jv at k; rw [(Int64.ofInt_add x y)] at k; exact k)
theorem kp_xlsub (C : CallFix p m c cc nL s args kp_wl own) {x y : Int} (hdg : decode cc pc = .ok (.lsub, 1)) (k : W p l e R s m args below meth c H locs 0 0 Q (F0 m (pc + 1) ls (kp_jv (x - y) :: rest))) : W p l e R s m args below meth c H locs 0 0 Q (F0 m pc ls (kp_jv y :: kp_jv x :: rest)) := lv_lsub C.1 C.2.1 hdg (by have k := k; unfold kp_jv at k; rw [(Int64.ofInt_sub x y)] at k; exact k)
theorem kp_xland (C : CallFix p m c cc nL s args kp_wl own) {x y : Int} (hdg : decode cc pc = .ok (.land, 1)) (k : W p l e R s m args below meth c H locs 0 0 Q (F0 m (pc + 1) ls (kp_jv (kp_andL x y) :: rest))) : W p l e R s m args below meth c H locs 0 0 Q (F0 m pc ls (kp_jv y :: kp_jv x :: rest)) := lv_land C.1 C.2.1 hdg (by have k := k; unfold kp_jv at k; rw [(kp_and_l x y).symm] at k; exact k)
theorem kp_xlor (C : CallFix p m c cc nL s args kp_wl own) {x y : Int} (hdg : decode cc pc = .ok (.lor, 1)) (k : W p l e R s m args below meth c H locs 0 0 Q (F0 m (pc + 1) ls (kp_jv (kp_orL x y) :: rest))) : W p l e R s m args below meth c H locs 0 0 Q (F0 m pc ls (kp_jv y :: kp_jv x :: rest)) := lv_lor C.1 C.2.1 hdg (by have k := k; unfold kp_jv at k; rw [(kp_or_l x y).symm] at k; exact k)
theorem kp_xlxor (C : CallFix p m c cc nL s args kp_wl own) {x y : Int} (hdg : decode cc pc = .ok (.lxor, 1)) (k : W p l e R s m args below meth c H locs 0 0 Q (F0 m (pc + 1) ls (kp_jv (kp_xorL x y) :: rest))) : W p l e R s m args below meth c H locs 0 0 Q (F0 m pc ls (kp_jv y :: kp_jv x :: rest)) := lv_lxor C.1 C.2.1 hdg (by have k := k; unfold kp_jv at k; rw [(kp_xor_l x y).symm] at k; exact k)
theorem kp_ineg (C : CallFix p m c cc nL s args kp_wl own) {x : Int} (hdg : decode cc pc = .ok (.ineg, 1)) (k : W p l e R s m args below meth c H locs 0 0 Q (F0 m (pc + 1) ls (kp_iv (-x) :: rest))) : W p l e R s m args below meth c H locs 0 0 Q (F0 m pc ls (kp_iv x :: rest)) := lv_ineg C.1 C.2.1 hdg (by have k := k; unfold kp_iv at k; rw [Int32.ofInt_neg] at k; exact k)
theorem kp_idiv (C : CallFix p m c cc nL s args kp_wl own) {x y : Int} {r : kp_R} (hdg : decode cc pc = .ok (.idiv, 1)) (hF : kp_ck (0 ≤ x ∧ x ≤ 2147483647 ∧ 0 < y ∧ y ≤ 2147483647) r = some o) (k : r = some o → W p l e R s m args below meth c H locs 0 0 Q (F0 m (pc + 1) ls (kp_iv (x / y) :: rest))) : W p l e R s m args below meth c H locs 0 0 Q (F0 m pc ls (kp_iv y :: kp_iv x :: rest)) := by
  obtain ⟨a, hF⟩ := kp_ck_s hF
  have k := k hF
  unfold kp_iv at k
  rw [← kp_div ⟨a.1, a.2.1⟩ a.2.2] at k
  exact lv_idiv C.1 C.2.1 hdg (by rw [kp_0, kp_eq_i ⟨by omega, by omega⟩ kp_in0]; omega) k
theorem kp_irem (C : CallFix p m c cc nL s args kp_wl own) {x y : Int} {r : kp_R} (hdg : decode cc pc = .ok (.irem, 1)) (hF : kp_ck (0 ≤ x ∧ x ≤ 2147483647 ∧ 0 < y ∧ y ≤ 2147483647) r = some o) (k : r = some o → W p l e R s m args below meth c H locs 0 0 Q (F0 m (pc + 1) ls (kp_iv (x % y) :: rest))) : W p l e R s m args below meth c H locs 0 0 Q (F0 m pc ls (kp_iv y :: kp_iv x :: rest)) := by
  obtain ⟨a, hF⟩ := kp_ck_s hF
  have k := k hF
  unfold kp_iv at k
  rw [← kp_rem ⟨a.1, a.2.1⟩ a.2.2] at k
  exact lv_irem C.1 C.2.1 hdg (by rw [kp_0, kp_eq_i ⟨by omega, by omega⟩ kp_in0]; omega) k
theorem kp_xishl (C : CallFix p m c cc nL s args kp_wl own) {x y : Int} {r : kp_R} (hdg : decode cc pc = .ok (.ishl, 1)) (hF : kp_ck (0 ≤ y ∧ y < 32) r = some o) (k : r = some o → W p l e R s m args below meth c H locs 0 0 Q (F0 m (pc + 1) ls (kp_iv (x * 2 ^ y.toNat) :: rest))) : W p l e R s m args below meth c H locs 0 0 Q (F0 m pc ls (kp_iv y :: kp_iv x :: rest)) := by
  obtain ⟨a, hF⟩ := kp_ck_s hF
  have k := k hF
  unfold kp_iv at k
  rw [← kp_ishl a] at k
  exact lv_ishl C.1 C.2.1 hdg k
theorem kp_xishr (C : CallFix p m c cc nL s args kp_wl own) {x y : Int} {r : kp_R} (hdg : decode cc pc = .ok (.ishr, 1)) (hF : kp_ck (kp_in x ∧ 0 ≤ y ∧ y < 32) r = some o) (k : r = some o → W p l e R s m args below meth c H locs 0 0 Q (F0 m (pc + 1) ls (kp_iv (x / 2 ^ y.toNat) :: rest))) : W p l e R s m args below meth c H locs 0 0 Q (F0 m pc ls (kp_iv y :: kp_iv x :: rest)) := by
  obtain ⟨a, hF⟩ := kp_ck_s hF
  have k := k hF
  unfold kp_iv at k
  rw [← kp_ishr a.1 a.2] at k
  exact lv_ishr C.1 C.2.1 hdg k
theorem kp_xlshl (C : CallFix p m c cc nL s args kp_wl own) {x y : Int} {r : kp_R} (hdg : decode cc pc = .ok (.lshl, 1)) (hF : kp_ck (0 ≤ y ∧ y < 64) r = some o) (k : r = some o → W p l e R s m args below meth c H locs 0 0 Q (F0 m (pc + 1) ls (kp_jv (x * 2 ^ y.toNat) :: rest))) : W p l e R s m args below meth c H locs 0 0 Q (F0 m pc ls (kp_iv y :: kp_jv x :: rest)) := by
  obtain ⟨a, hF⟩ := kp_ck_s hF
  exact lv_lshl C.1 C.2.1 hdg (kp_lshl a) (k hF)
theorem kp_xlshr (C : CallFix p m c cc nL s args kp_wl own) {x y : Int} {r : kp_R} (hdg : decode cc pc = .ok (.lshr, 1)) (hF : kp_ck (kp_inL x ∧ 0 ≤ y ∧ y < 64) r = some o) (k : r = some o → W p l e R s m args below meth c H locs 0 0 Q (F0 m (pc + 1) ls (kp_jv (x / 2 ^ y.toNat) :: rest))) : W p l e R s m args below meth c H locs 0 0 Q (F0 m pc ls (kp_iv y :: kp_jv x :: rest)) := by
  obtain ⟨a, hF⟩ := kp_ck_s hF
  exact lv_lshr C.1 C.2.1 hdg (kp_lshr a.1 a.2) (k hF)
theorem kp_xlcmp (C : CallFix p m c cc nL s args kp_wl own) {x y : Int} {r : kp_R} (hdg : decode cc pc = .ok (.lcmp, 1)) (hF : kp_ck (kp_inL x ∧ kp_inL y) r = some o) (k : r = some o → W p l e R s m args below meth c H locs 0 0 Q (F0 m (pc + 1) ls (kp_iv (kp_cmp x y) :: rest))) : W p l e R s m args below meth c H locs 0 0 Q (F0 m pc ls (kp_jv y :: kp_jv x :: rest)) := by
  obtain ⟨a, hF⟩ := kp_ck_s hF
  have k := k hF
  unfold kp_iv at k
  rw [← kp_lcmp a.1 a.2] at k
  exact W.lcmp C.1 C.2.1 hdg k
theorem kp_xi2l (C : CallFix p m c cc nL s args kp_wl own) {x : Int} {r : kp_R} (hdg : decode cc pc = .ok (.i2l, 1)) (hF : kp_ck (kp_in x) r = some o) (k : r = some o → W p l e R s m args below meth c H locs 0 0 Q (F0 m (pc + 1) ls (kp_jv x :: rest))) : W p l e R s m args below meth c H locs 0 0 Q (F0 m pc ls (kp_iv x :: rest)) := by
  obtain ⟨a, hF⟩ := kp_ck_s hF
  exact lv_i2l C.1 C.2.1 hdg (kp_i2l a) (k hF)
theorem kp_xl2i (C : CallFix p m c cc nL s args kp_wl own) {x : Int} (hdg : decode cc pc = .ok (.l2i, 1)) (k : W p l e R s m args below meth c H locs 0 0 Q (F0 m (pc + 1) ls (kp_iv x :: rest))) : W p l e R s m args below meth c H locs 0 0 Q (F0 m pc ls (kp_jv x :: rest)) := lv_l2i C.1 C.2.1 hdg Int64.toInt32_ofInt k
theorem kp_dup (C : CallFix p m c cc nL s args kp_wl own) {va : Value} (hdg : decode cc pc = .ok (.dup, 1)) (hc : va.category = 1) (k : W p l e R s m args below meth c H locs 0 0 Q (F0 m (pc + 1) ls (va :: va :: rest))) : W p l e R s m args below meth c H locs 0 0 Q (F0 m pc ls (va :: rest)) := lv_dup C.1 C.2.1 hdg hc k
theorem kp_dup_x1 (C : CallFix p m c cc nL s args kp_wl own) {va vb : Value} (hdg : decode cc pc = .ok (.dup_x1, 1)) (hc : va.category = 1) (hd : vb.category = 1) (k : W p l e R s m args below meth c H locs 0 0 Q (F0 m (pc + 1) ls (va :: vb :: va :: rest))) : W p l e R s m args below meth c H locs 0 0 Q (F0 m pc ls (va :: vb :: rest)) := lv_dup_x1 C.1 C.2.1 hdg hc hd k
theorem kp_icmp_eq (C : CallFix p m c cc nL s args kp_wl own) {x y : Int} {a b : kp_R} {off : Int} {tgt : Nat} (hdg : decode cc pc = .ok (.if_icmp .eq off, 3)) (ht : (pc : Int) + off = (tgt : Int)) (hF : kp_eq x y a b = some o) (kt : a = some o → W p l e R s m args below meth c H locs 0 0 Q (F0 m tgt ls rest)) (kf : b = some o → W p l e R s m args below meth c H locs 0 0 Q (F0 m (pc + 3) ls rest)) : W p l e R s m args below meth c H locs 0 0 Q (F0 m pc ls (kp_iv y :: kp_iv x :: rest)) := by
  obtain ⟨hx, hy, ha, hb⟩ := kp_eq_s hF
  exact lv_icmp_eq C.1 C.2.1 hdg ht (fun z => kt (ha ((kp_eq_i hx hy).mp z))) (fun z => kf (hb (fun q => z ((kp_eq_i hx hy).mpr q))))
theorem kp_icmp_ne (C : CallFix p m c cc nL s args kp_wl own) {x y : Int} {a b : kp_R} {off : Int} {tgt : Nat} (hdg : decode cc pc = .ok (.if_icmp .ne off, 3)) (ht : (pc : Int) + off = (tgt : Int)) (hF : kp_eq x y a b = some o) (kt : b = some o → W p l e R s m args below meth c H locs 0 0 Q (F0 m tgt ls rest)) (kf : a = some o → W p l e R s m args below meth c H locs 0 0 Q (F0 m (pc + 3) ls rest)) : W p l e R s m args below meth c H locs 0 0 Q (F0 m pc ls (kp_iv y :: kp_iv x :: rest)) := by
  obtain ⟨hx, hy, ha, hb⟩ := kp_eq_s hF
  exact lv_icmp_ne C.1 C.2.1 hdg ht (fun z => kt (hb (fun q => z ((kp_eq_i hx hy).mpr q)))) (fun z => kf (ha ((kp_eq_i hx hy).mp z)))
theorem kp_icmp_lt (C : CallFix p m c cc nL s args kp_wl own) {x y : Int} {a b : kp_R} {off : Int} {tgt : Nat} (hdg : decode cc pc = .ok (.if_icmp .lt off, 3)) (ht : (pc : Int) + off = (tgt : Int)) (hF : kp_ls x y a b = some o) (kt : a = some o → W p l e R s m args below meth c H locs 0 0 Q (F0 m tgt ls rest)) (kf : b = some o → W p l e R s m args below meth c H locs 0 0 Q (F0 m (pc + 3) ls rest)) : W p l e R s m args below meth c H locs 0 0 Q (F0 m pc ls (kp_iv y :: kp_iv x :: rest)) := by
  obtain ⟨hx, hy, ha, hb⟩ := kp_ls_s hF
  exact lv_icmp_lt C.1 C.2.1 hdg ht (fun z => kt (ha ((kp_lt_i hx hy).mp z))) (fun z => kf (hb (fun q => z ((kp_lt_i hx hy).mpr q))))
theorem kp_icmp_ge (C : CallFix p m c cc nL s args kp_wl own) {x y : Int} {a b : kp_R} {off : Int} {tgt : Nat} (hdg : decode cc pc = .ok (.if_icmp .ge off, 3)) (ht : (pc : Int) + off = (tgt : Int)) (hF : kp_ls x y a b = some o) (kt : b = some o → W p l e R s m args below meth c H locs 0 0 Q (F0 m tgt ls rest)) (kf : a = some o → W p l e R s m args below meth c H locs 0 0 Q (F0 m (pc + 3) ls rest)) : W p l e R s m args below meth c H locs 0 0 Q (F0 m pc ls (kp_iv y :: kp_iv x :: rest)) := by
  obtain ⟨hx, hy, ha, hb⟩ := kp_ls_s hF
  exact lv_icmp_ge C.1 C.2.1 hdg ht (fun z => kt (hb (Int.not_lt.mpr ((kp_le_i hy hx).mp z)))) (fun z => kf (ha (Int.not_le.mp (fun q => z ((kp_le_i hy hx).mpr q)))))
theorem kp_icmp_gt (C : CallFix p m c cc nL s args kp_wl own) {x y : Int} {a b : kp_R} {off : Int} {tgt : Nat} (hdg : decode cc pc = .ok (.if_icmp .gt off, 3)) (ht : (pc : Int) + off = (tgt : Int)) (hF : kp_ls y x a b = some o) (kt : a = some o → W p l e R s m args below meth c H locs 0 0 Q (F0 m tgt ls rest)) (kf : b = some o → W p l e R s m args below meth c H locs 0 0 Q (F0 m (pc + 3) ls rest)) : W p l e R s m args below meth c H locs 0 0 Q (F0 m pc ls (kp_iv y :: kp_iv x :: rest)) := by
  obtain ⟨hx, hy, ha, hb⟩ := kp_ls_s hF
  exact lv_icmp_gt C.1 C.2.1 hdg ht (fun z => kt (ha ((kp_lt_i hx hy).mp z))) (fun z => kf (hb (fun q => z ((kp_lt_i hx hy).mpr q))))
theorem kp_icmp_le (C : CallFix p m c cc nL s args kp_wl own) {x y : Int} {a b : kp_R} {off : Int} {tgt : Nat} (hdg : decode cc pc = .ok (.if_icmp .le off, 3)) (ht : (pc : Int) + off = (tgt : Int)) (hF : kp_ls y x a b = some o) (kt : b = some o → W p l e R s m args below meth c H locs 0 0 Q (F0 m tgt ls rest)) (kf : a = some o → W p l e R s m args below meth c H locs 0 0 Q (F0 m (pc + 3) ls rest)) : W p l e R s m args below meth c H locs 0 0 Q (F0 m pc ls (kp_iv y :: kp_iv x :: rest)) := by
  obtain ⟨hx, hy, ha, hb⟩ := kp_ls_s hF
  exact lv_icmp_le C.1 C.2.1 hdg ht (fun z => kt (hb (Int.not_lt.mpr ((kp_le_i hy hx).mp z)))) (fun z => kf (ha (Int.not_le.mp (fun q => z ((kp_le_i hy hx).mpr q)))))
theorem kp_if_eq (C : CallFix p m c cc nL s args kp_wl own) {x y : Int} {a b : kp_R} {off : Int} {tgt : Nat} (hdg : decode cc pc = .ok (.ifCond .eq off, 3)) (ht : (pc : Int) + off = (tgt : Int)) (hF : kp_eq x 0 a b = some o) (kt : a = some o → W p l e R s m args below meth c H locs 0 0 Q (F0 m tgt ls rest)) (kf : b = some o → W p l e R s m args below meth c H locs 0 0 Q (F0 m (pc + 3) ls rest)) : W p l e R s m args below meth c H locs 0 0 Q (F0 m pc ls (kp_iv x :: rest)) := by
  obtain ⟨hx, hy, ha, hb⟩ := kp_eq_s hF
  exact lv_if_eq C.1 C.2.1 hdg ht (fun z => kt (ha ((kp_eq_i hx hy).mp z))) (fun z => kf (hb (fun q => z ((kp_eq_i hx hy).mpr q))))
theorem kp_if_ne (C : CallFix p m c cc nL s args kp_wl own) {x y : Int} {a b : kp_R} {off : Int} {tgt : Nat} (hdg : decode cc pc = .ok (.ifCond .ne off, 3)) (ht : (pc : Int) + off = (tgt : Int)) (hF : kp_eq x 0 a b = some o) (kt : b = some o → W p l e R s m args below meth c H locs 0 0 Q (F0 m tgt ls rest)) (kf : a = some o → W p l e R s m args below meth c H locs 0 0 Q (F0 m (pc + 3) ls rest)) : W p l e R s m args below meth c H locs 0 0 Q (F0 m pc ls (kp_iv x :: rest)) := by
  obtain ⟨hx, hy, ha, hb⟩ := kp_eq_s hF
  exact lv_if_ne C.1 C.2.1 hdg ht (fun z => kt (hb (fun q => z ((kp_eq_i hx hy).mpr q)))) (fun z => kf (ha ((kp_eq_i hx hy).mp z)))
theorem kp_if_lt (C : CallFix p m c cc nL s args kp_wl own) {x y : Int} {a b : kp_R} {off : Int} {tgt : Nat} (hdg : decode cc pc = .ok (.ifCond .lt off, 3)) (ht : (pc : Int) + off = (tgt : Int)) (hF : kp_ls x 0 a b = some o) (kt : a = some o → W p l e R s m args below meth c H locs 0 0 Q (F0 m tgt ls rest)) (kf : b = some o → W p l e R s m args below meth c H locs 0 0 Q (F0 m (pc + 3) ls rest)) : W p l e R s m args below meth c H locs 0 0 Q (F0 m pc ls (kp_iv x :: rest)) := by
  obtain ⟨hx, hy, ha, hb⟩ := kp_ls_s hF
  exact lv_if_lt C.1 C.2.1 hdg ht (fun z => kt (ha ((kp_lt_i hx hy).mp z))) (fun z => kf (hb (fun q => z ((kp_lt_i hx hy).mpr q))))
theorem kp_if_ge (C : CallFix p m c cc nL s args kp_wl own) {x y : Int} {a b : kp_R} {off : Int} {tgt : Nat} (hdg : decode cc pc = .ok (.ifCond .ge off, 3)) (ht : (pc : Int) + off = (tgt : Int)) (hF : kp_ls x 0 a b = some o) (kt : b = some o → W p l e R s m args below meth c H locs 0 0 Q (F0 m tgt ls rest)) (kf : a = some o → W p l e R s m args below meth c H locs 0 0 Q (F0 m (pc + 3) ls rest)) : W p l e R s m args below meth c H locs 0 0 Q (F0 m pc ls (kp_iv x :: rest)) := by
  obtain ⟨hx, hy, ha, hb⟩ := kp_ls_s hF
  exact lv_if_ge C.1 C.2.1 hdg ht (fun z => kt (hb (Int.not_lt.mpr ((kp_le_i hy hx).mp z)))) (fun z => kf (ha (Int.not_le.mp (fun q => z ((kp_le_i hy hx).mpr q)))))
theorem kp_if_gt (C : CallFix p m c cc nL s args kp_wl own) {x y : Int} {a b : kp_R} {off : Int} {tgt : Nat} (hdg : decode cc pc = .ok (.ifCond .gt off, 3)) (ht : (pc : Int) + off = (tgt : Int)) (hF : kp_ls 0 x a b = some o) (kt : a = some o → W p l e R s m args below meth c H locs 0 0 Q (F0 m tgt ls rest)) (kf : b = some o → W p l e R s m args below meth c H locs 0 0 Q (F0 m (pc + 3) ls rest)) : W p l e R s m args below meth c H locs 0 0 Q (F0 m pc ls (kp_iv x :: rest)) := by
  obtain ⟨hx, hy, ha, hb⟩ := kp_ls_s hF
  exact lv_if_gt C.1 C.2.1 hdg ht (fun z => kt (ha ((kp_lt_i hx hy).mp z))) (fun z => kf (hb (fun q => z ((kp_lt_i hx hy).mpr q))))
theorem kp_if_le (C : CallFix p m c cc nL s args kp_wl own) {x y : Int} {a b : kp_R} {off : Int} {tgt : Nat} (hdg : decode cc pc = .ok (.ifCond .le off, 3)) (ht : (pc : Int) + off = (tgt : Int)) (hF : kp_ls 0 x a b = some o) (kt : b = some o → W p l e R s m args below meth c H locs 0 0 Q (F0 m tgt ls rest)) (kf : a = some o → W p l e R s m args below meth c H locs 0 0 Q (F0 m (pc + 3) ls rest)) : W p l e R s m args below meth c H locs 0 0 Q (F0 m pc ls (kp_iv x :: rest)) := by
  obtain ⟨hx, hy, ha, hb⟩ := kp_ls_s hF
  exact lv_if_le C.1 C.2.1 hdg ht (fun z => kt (hb (Int.not_lt.mpr ((kp_le_i hy hx).mp z)))) (fun z => kf (ha (Int.not_le.mp (fun q => z ((kp_le_i hy hx).mpr q)))))
theorem kp_goto (C : CallFix p m c cc nL s args kp_wl own) {off : Int} {tgt : Nat} (hdg : decode cc pc = .ok (.goto off, 3)) (ht : (pc : Int) + off = (tgt : Int)) (k : W p l e R s m args below meth c H locs 0 0 Q (F0 m tgt ls rest)) : W p l e R s m args below meth c H locs 0 0 Q (F0 m pc ls rest) := lv_goto C.1 C.2.1 hdg ht k
theorem kp_obj {k ci : Nat} {rs : List (Option Nat)} (hL : k < N ∧ lay k = (0, ci, rs)) : (kp_ws X lay N σ)[k]? = some (kp_ad X k, .inr (ci, kp_fl (kp_ad X) (σ k) 0 rs)) := by
  rw [kp_ws_at hL.1, hL.2]
  rfl
theorem kp_arr {k n : Nat} {rs : List (Option Nat)} (hL : k < N ∧ lay k = (1, n, rs)) : (kp_ws X lay N σ)[k]? = some (kp_ad X k, .inl (kp_cy X 0, n, .inl fun j => Int32.ofInt (σ k j))) := by
  rw [kp_ws_at hL.1, hL.2]
  rfl
theorem kp_arrL {k n : Nat} {rs : List (Option Nat)} (hL : k < N ∧ lay k = (2, n, rs)) : (kp_ws X lay N σ)[k]? = some (kp_ad X k, .inl (kp_cy X 1, n, .inr (.inl fun j => Int64.ofInt (σ k j)))) := by
  rw [kp_ws_at hL.1, hL.2]
  rfl
theorem kp_arrZ {k n : Nat} {rs : List (Option Nat)} (hL : k < N ∧ lay k = (3, n, rs)) : (kp_ws X lay N σ)[k]? = some (kp_ad X k, .inl (kp_cy X 2, n, .inl fun j => Int32.ofInt (σ k j))) := by
  rw [kp_ws_at hL.1, hL.2]
  rfl
theorem kp_geti (C : CallFix p m c cc nL s args kp_wl own) (G : kp_G X N s) (h : kp_H X lay N s σ H locs) {C0 : String} {T : u_T} {Nf ci index k : Nat} {rs : List (Option Nat)} (hL : k < N ∧ lay k = (0, ci, rs)) (hc : vwCl[ci]? = some (C0, T, Nf)) (hin : ∀ w ∈ u_ws C0 T Nf, w ∈ kp_wl) {j : Nat} (hj : j < Nf) (hw : Cond.fieldLink own index (T j).1 (T j).2.1 (T j).2.2.1 ∈ kp_wl) (hr : rs[j]? = some none) (hdg : decode cc pc = .ok (.getfield index, 3)) (kk : W p l e R s m args below meth c H locs 0 0 Q (F0 m (pc + 3) ls (kp_iv (σ k j) :: rest))) : W p l e R s m args below meth c H locs 0 0 Q (F0 m pc ls (.ref (kp_ad X k) :: rest)) := by
  refine va_get C.1 C.2.1 C.2.2.2.2 hin C.2.2.2.1 G.1 h.1 k (kp_obj hL) hc j hj (C.2.2.2.2 _ hw) (fun _ z => z) (v := kp_iv (σ k j)) ?_ hdg kk
  rw [kp_fl_get, hr, Nat.zero_add]
  rfl
theorem kp_getr (C : CallFix p m c cc nL s args kp_wl own) (G : kp_G X N s) (h : kp_H X lay N s σ H locs) {C0 : String} {T : u_T} {Nf ci index k : Nat} {rs : List (Option Nat)} (hL : k < N ∧ lay k = (0, ci, rs)) (hc : vwCl[ci]? = some (C0, T, Nf)) (hin : ∀ w ∈ u_ws C0 T Nf, w ∈ kp_wl) {j r : Nat} (hj : j < Nf) (hw : Cond.fieldLink own index (T j).1 (T j).2.1 (T j).2.2.1 ∈ kp_wl) (hr : rs[j]? = some (some r)) (hdg : decode cc pc = .ok (.getfield index, 3)) (kk : W p l e R s m args below meth c H locs 0 0 Q (F0 m (pc + 3) ls (.ref (kp_ad X r) :: rest))) : W p l e R s m args below meth c H locs 0 0 Q (F0 m pc ls (.ref (kp_ad X k) :: rest)) := by
  refine va_get C.1 C.2.1 C.2.2.2.2 hin C.2.2.2.1 G.1 h.1 k (kp_obj hL) hc j hj (C.2.2.2.2 _ hw) (fun _ z => z) (v := .ref (kp_ad X r)) ?_ hdg kk
  rw [kp_fl_get, hr]
  rfl
theorem kp_puti (C : CallFix p m c cc nL s args kp_wl own) (G : kp_G X N s) (h : kp_H X lay N s σ H locs) {C0 : String} {T : u_T} {Nf ci index k : Nat} {rs : List (Option Nat)} (hL : k < N ∧ lay k = (0, ci, rs)) (hc : vwCl[ci]? = some (C0, T, Nf)) (hin : ∀ w ∈ u_ws C0 T Nf, w ∈ kp_wl) (ty0 : Nat → FieldType) (hty : ∀ k, k < Nf → parseFieldDescriptor (T k).2.2.1 = some (ty0 k)) (hnm : ∀ a, a < Nf → ∀ b, b < Nf → a ≠ b → (T a).2.1 ≠ (T b).2.1) {j : Nat} (hj : j < Nf) (hw : Cond.fieldLink own index (T j).1 (T j).2.1 (T j).2.2.1 ∈ kp_wl) (hr : rs[j]? = some none) (hfin : (T j).2.2.2 = false) (hd : parseFieldDescriptor (T j).2.2.1 = some .int) (hdg : decode cc pc = .ok (.putfield index, 3)) {x : Int} {f : kp_W → kp_R} (hF : kp_lt (kp_up σ k j x) f = some o) (kk : ∀ (σ' : kp_W) (H1 : Heap) (locs1 : List Loc), kp_H X lay N s σ' H1 locs1 → f σ' = some o → W p l e R s m args below meth c H1 locs1 0 0 Q (F0 m (pc + 3) ls rest)) : W p l e R s m args below meth c H locs 0 0 Q (F0 m pc ls (kp_iv x :: .ref (kp_ad X k) :: rest)) := by
  refine va_put C.1 C.2.1 C.2.2.2.2 hin ty0 hty hnm C.2.2.2.1 G.1 h.1 (kp_ws_D G.2.1) h.2 k (kp_obj hL) hc j hj (C.2.2.2.2 _ hw) (fun _ z => z) hfin (v := kp_iv x) hd rfl rfl (by rw [kp_fl_len]; exact (List.getElem?_eq_some_iff.mp hr).1) hdg (fun H1 locs1 hP _ hS => kk (kp_up σ k j x) H1 locs1 ⟨?_, hS⟩ hF)
  rw [kp_ws_set (σ' := kp_up σ k j x) hL.1 (by rw [hL.2]; show _ = Sum.inr _; rw [← kp_fl_set hr]; rfl) (fun _ hq => kp_up_ne hq)] at hP
  exact hP
theorem kp_putz (C : CallFix p m c cc nL s args kp_wl own) (G : kp_G X N s) (h : kp_H X lay N s σ H locs) {C0 : String} {T : u_T} {Nf ci index k : Nat} {rs : List (Option Nat)} (hL : k < N ∧ lay k = (0, ci, rs)) (hc : vwCl[ci]? = some (C0, T, Nf)) (hin : ∀ w ∈ u_ws C0 T Nf, w ∈ kp_wl) (ty0 : Nat → FieldType) (hty : ∀ k, k < Nf → parseFieldDescriptor (T k).2.2.1 = some (ty0 k)) (hnm : ∀ a, a < Nf → ∀ b, b < Nf → a ≠ b → (T a).2.1 ≠ (T b).2.1) {j : Nat} (hj : j < Nf) (hw : Cond.fieldLink own index (T j).1 (T j).2.1 (T j).2.2.1 ∈ kp_wl) (hr : rs[j]? = some none) (hfin : (T j).2.2.2 = false) (hd : parseFieldDescriptor (T j).2.2.1 = some .boolean) (hdg : decode cc pc = .ok (.putfield index, 3)) {x : Int} {f : kp_W → kp_R} (hF : kp_ck (x = 0 ∨ x = 1) (kp_lt (kp_up σ k j x) f) = some o) (kk : ∀ (σ' : kp_W) (H1 : Heap) (locs1 : List Loc), kp_H X lay N s σ' H1 locs1 → f σ' = some o → W p l e R s m args below meth c H1 locs1 0 0 Q (F0 m (pc + 3) ls rest)) : W p l e R s m args below meth c H locs 0 0 Q (F0 m pc ls (kp_iv x :: .ref (kp_ad X k) :: rest)) := by
  obtain ⟨hx, hF⟩ := kp_ck_s hF
  refine va_put C.1 C.2.1 C.2.2.2.2 hin ty0 hty hnm C.2.2.2.1 G.1 h.1 (kp_ws_D G.2.1) h.2 k (kp_obj hL) hc j hj (C.2.2.2.2 _ hw) (fun _ z => z) hfin (v := kp_iv x) hd (by rcases hx with rfl | rfl <;> rfl) (by rcases hx with rfl | rfl <;> rfl) (by rw [kp_fl_len]; exact (List.getElem?_eq_some_iff.mp hr).1) hdg (fun H1 locs1 hP _ hS => kk (kp_up σ k j x) H1 locs1 ⟨?_, hS⟩ hF)
  rw [kp_ws_set (σ' := kp_up σ k j x) hL.1 (by rw [hL.2]; show _ = Sum.inr _; rw [← kp_fl_set hr]; rfl) (fun _ hq => kp_up_ne hq)] at hP
  exact hP
theorem kp_iald (C : CallFix p m c cc nL s args kp_wl own) (G : kp_G X N s) (h : kp_H X lay N s σ H locs) {k : Nat} {n i : Int} {rs : List (Option Nat)} (hL : k < N ∧ lay k = (1, n.toNat, rs)) (hn : n ≤ 2147483647) {r : kp_R} (hdg : decode cc pc = .ok (.iaload, 1)) (hF : kp_ck (0 ≤ i ∧ i < n) r = some o) (kk : r = some o → W p l e R s m args below meth c H locs 0 0 Q (F0 m (pc + 1) ls (kp_iv (σ k i.toNat) :: rest))) : W p l e R s m args below meth c H locs 0 0 Q (F0 m pc ls (kp_iv i :: .ref (kp_ad X k) :: rest)) := by
  obtain ⟨a, hF⟩ := kp_ck_s hF
  have kk := kk hF
  unfold kp_iv at kk ⊢
  rw [← kp_clx a hn] at kk
  exact va_iald C.1 C.2.1 G.1 h.1 k 0 (kp_arr hL) rfl (kp_vin a hn) hdg kk
theorem kp_lald (C : CallFix p m c cc nL s args kp_wl own) (G : kp_G X N s) (h : kp_H X lay N s σ H locs) {k : Nat} {n i : Int} {rs : List (Option Nat)} (hL : k < N ∧ lay k = (2, n.toNat, rs)) (hn : n ≤ 2147483647) {r : kp_R} (hdg : decode cc pc = .ok (.laload, 1)) (hF : kp_ck (0 ≤ i ∧ i < n) r = some o) (kk : r = some o → W p l e R s m args below meth c H locs 0 0 Q (F0 m (pc + 1) ls (kp_jv (σ k i.toNat) :: rest))) : W p l e R s m args below meth c H locs 0 0 Q (F0 m pc ls (kp_iv i :: .ref (kp_ad X k) :: rest)) := by
  obtain ⟨a, hF⟩ := kp_ck_s hF
  have kk := kk hF
  unfold kp_jv at kk
  unfold kp_iv
  rw [← kp_clx a hn] at kk
  exact va_lald C.1 C.2.1 G.1 h.1 k 1 (kp_arrL hL) rfl (kp_vin a hn) hdg kk
theorem kp_zald (C : CallFix p m c cc nL s args kp_wl own) (G : kp_G X N s) (h : kp_H X lay N s σ H locs) {k : Nat} {n i : Int} {rs : List (Option Nat)} (hL : k < N ∧ lay k = (3, n.toNat, rs)) (hn : n ≤ 2147483647) {r : kp_R} (hdg : decode cc pc = .ok (.baload, 1)) (hF : kp_ck (0 ≤ i ∧ i < n) r = some o) (kk : r = some o → W p l e R s m args below meth c H locs 0 0 Q (F0 m (pc + 1) ls (kp_iv (σ k i.toNat) :: rest))) : W p l e R s m args below meth c H locs 0 0 Q (F0 m pc ls (kp_iv i :: .ref (kp_ad X k) :: rest)) := by
  obtain ⟨a, hF⟩ := kp_ck_s hF
  have kk := kk hF
  unfold kp_iv at kk ⊢
  rw [← kp_clx a hn] at kk
  exact va_zald C.1 C.2.1 G.1 h.1 k 2 (kp_arrZ hL) rfl (kp_vin a hn) hdg kk
theorem kp_updI {σ : kp_W} {k i : Nat} {x : Int} : upd (fun j => Int32.ofInt (σ k j)) i (Int32.ofInt x) = fun j => Int32.ofInt (kp_up σ k i x k j) := by
  funext j
  unfold upd
  rw [kp_up_eq]
  by_cases q : j = i
  · rw [if_pos q, if_pos q]
  · rw [if_neg q, if_neg q]
theorem kp_updJ {σ : kp_W} {k i : Nat} {x : Int} : vp_updL (fun j => Int64.ofInt (σ k j)) i (Int64.ofInt x) = fun j => Int64.ofInt (kp_up σ k i x k j) := by
  funext j
  unfold vp_updL
  rw [kp_up_eq]
  by_cases q : j = i
  · rw [if_pos q, if_pos q]
  · rw [if_neg q, if_neg q]
theorem kp_iast (C : CallFix p m c cc nL s args kp_wl own) (G : kp_G X N s) (h : kp_H X lay N s σ H locs) {k : Nat} {n i : Int} {rs : List (Option Nat)} (hL : k < N ∧ lay k = (1, n.toNat, rs)) (hn : n ≤ 2147483647) {x : Int} {f : kp_W → kp_R} (hdg : decode cc pc = .ok (.iastore, 1)) (hF : kp_ck (0 ≤ i ∧ i < n) (kp_lt (kp_up σ k i.toNat x) f) = some o) (kk : ∀ (σ' : kp_W) (H1 : Heap) (locs1 : List Loc), kp_H X lay N s σ' H1 locs1 → f σ' = some o → W p l e R s m args below meth c H1 locs1 0 0 Q (F0 m (pc + 1) ls rest)) : W p l e R s m args below meth c H locs 0 0 Q (F0 m pc ls (kp_iv x :: kp_iv i :: .ref (kp_ad X k) :: rest)) := by
  obtain ⟨a, hF⟩ := kp_ck_s hF
  refine va_iast C.1 C.2.1 G.1 h.1 (kp_ws_D G.2.1) h.2 k 0 (kp_arr hL) rfl (kp_vin a hn) hdg (fun H1 locs1 hP _ hS => kk (kp_up σ k i.toNat x) H1 locs1 ⟨?_, hS⟩ hF)
  rw [kp_clx a hn, kp_updI, kp_ws_set (σ' := kp_up σ k i.toNat x) hL.1 (by rw [hL.2]; rfl) (fun _ hq => kp_up_ne hq)] at hP
  exact hP
theorem kp_last (C : CallFix p m c cc nL s args kp_wl own) (G : kp_G X N s) (h : kp_H X lay N s σ H locs) {k : Nat} {n i : Int} {rs : List (Option Nat)} (hL : k < N ∧ lay k = (2, n.toNat, rs)) (hn : n ≤ 2147483647) {x : Int} {f : kp_W → kp_R} (hdg : decode cc pc = .ok (.lastore, 1)) (hF : kp_ck (0 ≤ i ∧ i < n) (kp_lt (kp_up σ k i.toNat x) f) = some o) (kk : ∀ (σ' : kp_W) (H1 : Heap) (locs1 : List Loc), kp_H X lay N s σ' H1 locs1 → f σ' = some o → W p l e R s m args below meth c H1 locs1 0 0 Q (F0 m (pc + 1) ls rest)) : W p l e R s m args below meth c H locs 0 0 Q (F0 m pc ls (kp_jv x :: kp_iv i :: .ref (kp_ad X k) :: rest)) := by
  obtain ⟨a, hF⟩ := kp_ck_s hF
  refine va_last C.1 C.2.1 G.1 h.1 (kp_ws_D G.2.1) h.2 k 1 (kp_arrL hL) rfl (kp_vin a hn) hdg (fun H1 locs1 hP _ hS => kk (kp_up σ k i.toNat x) H1 locs1 ⟨?_, hS⟩ hF)
  rw [kp_clx a hn, kp_updJ, kp_ws_set (σ' := kp_up σ k i.toNat x) hL.1 (by rw [hL.2]; rfl) (fun _ hq => kp_up_ne hq)] at hP
  exact hP
theorem kp_zast (C : CallFix p m c cc nL s args kp_wl own) (G : kp_G X N s) (h : kp_H X lay N s σ H locs) {k : Nat} {n i : Int} {rs : List (Option Nat)} (hL : k < N ∧ lay k = (3, n.toNat, rs)) (hn : n ≤ 2147483647) {x : Int} {f : kp_W → kp_R} (hdg : decode cc pc = .ok (.bastore, 1)) (hF : kp_ck (x = 0 ∨ x = 1) (kp_ck (0 ≤ i ∧ i < n) (kp_lt (kp_up σ k i.toNat x) f)) = some o) (kk : ∀ (σ' : kp_W) (H1 : Heap) (locs1 : List Loc), kp_H X lay N s σ' H1 locs1 → f σ' = some o → W p l e R s m args below meth c H1 locs1 0 0 Q (F0 m (pc + 1) ls rest)) : W p l e R s m args below meth c H locs 0 0 Q (F0 m pc ls (kp_iv x :: kp_iv i :: .ref (kp_ad X k) :: rest)) := by
  obtain ⟨hx, hF⟩ := kp_ck_s hF
  obtain ⟨a, hF⟩ := kp_ck_s hF
  have en : vp_nar .boolean (Int32.ofInt x) = Int32.ofInt x := by rcases hx with rfl | rfl <;> rfl
  refine va_zast C.1 C.2.1 G.1 h.1 (kp_ws_D G.2.1) h.2 k 2 (kp_arrZ hL) rfl (kp_vin a hn) hdg (fun H1 locs1 hP _ hS => kk (kp_up σ k i.toNat x) H1 locs1 ⟨?_, hS⟩ hF)
  rw [en, kp_clx a hn, kp_updI, kp_ws_set (σ' := kp_up σ k i.toNat x) hL.1 (by rw [hL.2]; rfl) (fun _ hq => kp_up_ne hq)] at hP
  exact hP
theorem kp_alen (C : CallFix p m c cc nL s args kp_wl own) (G : kp_G X N s) (h : kp_H X lay N s σ H locs) {k : Nat} {n : Int} {rs : List (Option Nat)} (hL : k < N ∧ lay k = (1, n.toNat, rs)) (hn : 0 ≤ n) (hdg : decode cc pc = .ok (.arraylength, 1)) (kk : W p l e R s m args below meth c H locs 0 0 Q (F0 m (pc + 1) ls (kp_iv n :: rest))) : W p l e R s m args below meth c H locs 0 0 Q (F0 m pc ls (.ref (kp_ad X k) :: rest)) := va_alen C.1 C.2.1 G.1 h.1 k 0 (kp_arr hL) (ty := .int) rfl (v := Int32.ofInt n) (by show Int32.ofNat n.toNat = _; rw [← Int32.ofInt_eq_ofNat, kp_toNat hn]) hdg kk
end KPR
end
section
def kp_rm (d : Nat) : Room := { frames := d, cells := 0, slots := 0, locals := 60 * d }
def kp_Qi (X : kp_X) (lay : Nat → kp_D) (N : Nat) (σ : kp_W) (r : Int) : Array Value → State → Outcome → State → Prop := va_Qi (fun r' (_ : Unit) => r' = Int32.ofInt r) (fun _ t => kp_B X lay N σ t) (kp_A X N)
def kp_Ql (X : kp_X) (lay : Nat → kp_D) (N : Nat) (σ : kp_W) (r : Int) : Array Value → State → Outcome → State → Prop := va_Ql (fun r' (_ : Unit) => r' = Int64.ofInt r) (fun _ t => kp_B X lay N σ t) (kp_A X N)
def kp_Qv (X : kp_X) (lay : Nat → kp_D) (N : Nat) (σ : kp_W) : Array Value → State → Outcome → State → Prop := va_Qv (fun (_ : Unit) => True) (fun _ t => kp_B X lay N σ t) (kp_A X N)
def kp_Met (l : Launch) (y : MethodName) (bytes : ByteArray) (maxL : Nat) (ret : Option FieldType) (d : Nat) (X : kp_X) (lay : Nat → kp_D) (N : Nat) (σ : kp_W) (av : List Value) (Qc : Array Value → State → Outcome → State → Prop) : Prop := Met l y (Cond.code y bytes maxL ret :: kp_wl) (kp_rm d) (va_Pc av (kp_B X lay N σ)) Qc 0 0 (kp_A X N)
theorem kp_body {l : Launch} {y : MethodName} {bytes : ByteArray} {maxL : Nat} {ret : Option FieldType} {d : Nat} {X : kp_X} {lay : Nat → kp_D} {N : Nat} {σ : kp_W} {av : List Value} {Qc : Array Value → State → Outcome → State → Prop} (hy : plainName y.cls = true) (hn : (lg_sl av).length ≤ maxL)
    (body : ∀ (p : Program) (e : Env) (s : State) (m : MethodId) (args : Array Value) (below : List Frame) (meth : Method) (c : Code) (ls : Array Slot), CallFix p m c bytes maxL s args kp_wl y.cls → meth.sig.returnType = ret → meth.locks = false → kp_G X N s → kp_H X lay N s σ s.heap [] → lv_has ls maxL (lv_args 0 av) → W p l e (kp_rm d) s m args below meth c s.heap [] 0 0 (MQ below Qc args s 0 0 (kp_A X N)) (F0 m 0 ls [])) : kp_Met l y bytes maxL ret d X lay N σ av Qc := by
  refine Met.ofW (cc := bytes) (maxL := maxL) (ret := ret) hy rfl ?_
  intro p e s m args below meth c s₁ B hml hv
  obtain ⟨rfl, hP, hG⟩ := hv
  have hts := atoms_spec (ws := Cond.code y bytes maxL ret :: kp_wl) B.pre
  have hl := lv_entry av (n := maxL) hn
  rw [lg_entry_eq]
  generalize (lg_sl av ++ List.replicate (maxL - (lg_sl av).length) Slot.unset).toArray = ls at hl ⊢
  exact body p e s m av.toArray below meth c ls ⟨B.exec, B.bytes, hml, findClass_of_methodNamed B.named, fun w hw => hts w (List.mem_cons_of_mem _ hw)⟩ B.returns B.notSynchronized hG ⟨hP, va_S.rf⟩ hl
section KPC
variable {p : Program} {l : Launch} {e : Env} {R : Room} {s : State} {m : MethodId} {args : Array Value} {below : List Frame} {meth : Method} {c : Code} {H : Heap} {locs : List Loc} {Q : State → Prop}
variable {cc : ByteArray} {nL : Nat} {own : String} {pc : Nat} {ls : Array Slot} {rest st : List Value} {X : kp_X} {lay : Nat → kp_D} {N : Nat} {σ σ' : kp_W} {r : Int}
theorem kp_hq (G : kp_G X N s) (h : kp_H X lay N s σ H locs) : ∀ t : State, t.heap = H → s.WarmedH t.vm → kp_B X lay N σ t ∧ va_F (kp_A X N) s t := fun t ht hW => ⟨kp_B_of G h ht hW, h.2.F ht⟩
theorem kp_reti (C : CallFix p m c cc nL s args kp_wl own) (hr : meth.sig.returnType = some .int) (hlk : meth.locks = false) (G : kp_G X N s) {σ0 : kp_W} (h : kp_H X lay N s σ0 H locs) {v : Int} (hdg : decode cc pc = .ok (.ireturn, 1)) (hF : (some (v, σ0) : kp_R) = some (r, σ)) : W p l e R s m args below meth c H locs 0 0 (MQ below (kp_Qi X lay N σ r) args s 0 0 (kp_A X N)) (F0 m pc ls [kp_iv v]) := by
  obtain ⟨rfl, rfl⟩ := Prod.mk.inj (Option.some.inj hF)
  exact W.iret C.1 C.2.1 hr (fun t ht hW => ⟨⟨_, (), rfl, rfl, (kp_hq G h t ht hW).1⟩, (kp_hq G h t ht hW).2⟩) h.2.2.2 hdg hlk
theorem kp_retz (C : CallFix p m c cc nL s args kp_wl own) (hr : meth.sig.returnType = some .boolean) (hlk : meth.locks = false) (G : kp_G X N s) {σ0 : kp_W} (h : kp_H X lay N s σ0 H locs) {v : Int} (hdg : decode cc pc = .ok (.ireturn, 1)) (hF : kp_ck (v = 0 ∨ v = 1) (some (v, σ0) : kp_R) = some (r, σ)) : W p l e R s m args below meth c H locs 0 0 (MQ below (kp_Qi X lay N σ r) args s 0 0 (kp_A X N)) (F0 m pc ls [kp_iv v]) := by
  obtain ⟨hv, hF⟩ := kp_ck_s hF
  obtain ⟨rfl, rfl⟩ := Prod.mk.inj (Option.some.inj hF)
  exact W.zret C.1 C.2.1 hr (by rcases hv with rfl | rfl <;> rfl) (fun t ht hW => ⟨⟨_, (), rfl, rfl, (kp_hq G h t ht hW).1⟩, (kp_hq G h t ht hW).2⟩) h.2.2.2 hdg hlk
theorem kp_retl (C : CallFix p m c cc nL s args kp_wl own) (hr : meth.sig.returnType = some .long) (hlk : meth.locks = false) (G : kp_G X N s) {σ0 : kp_W} (h : kp_H X lay N s σ0 H locs) {v : Int} (hdg : decode cc pc = .ok (.lreturn, 1)) (hF : (some (v, σ0) : kp_R) = some (r, σ)) : W p l e R s m args below meth c H locs 0 0 (MQ below (kp_Ql X lay N σ r) args s 0 0 (kp_A X N)) (F0 m pc ls [kp_jv v]) := by
  obtain ⟨rfl, rfl⟩ := Prod.mk.inj (Option.some.inj hF)
  exact W.lret C.1 C.2.1 hr (fun t ht hW => ⟨⟨_, (), rfl, rfl, (kp_hq G h t ht hW).1⟩, (kp_hq G h t ht hW).2⟩) h.2.2.2 hdg hlk
theorem kp_retv (C : CallFix p m c cc nL s args kp_wl own) (hr : meth.sig.returnType = none) (hlk : meth.locks = false) (G : kp_G X N s) {σ0 : kp_W} (h : kp_H X lay N s σ0 H locs) {v : Int} (hdg : decode cc pc = .ok (.return_, 1)) (hF : (some (v, σ0) : kp_R) = some (r, σ)) : W p l e R s m args below meth c H locs 0 0 (MQ below (kp_Qv X lay N σ) args s 0 0 (kp_A X N)) (F0 m pc ls []) := by
  obtain ⟨rfl, rfl⟩ := Prod.mk.inj (Option.some.inj hF)
  exact W.vret C.1 C.2.1 hr (fun t ht hW => ⟨⟨(), rfl, trivial, (kp_hq G h t ht hW).1⟩, (kp_hq G h t ht hW).2⟩) h.2.2.2 hdg hlk
-- calls
variable {y : MethodName} {bytes : ByteArray} {maxL index n d dd : Nat} {ret : Option FieldType} {As : List Value} {Qc : Array Value → State → Outcome → State → Prop}
theorem kp_gapp {big a b : List Cond} (ha : GoodIn big a) (hb : GoodIn big b) : GoodIn big (a ++ b) := fun w h => (List.mem_append.mp h).elim (ha w) (hb w)
theorem kp_wsy (hc : Cond.code y bytes maxL ret ∈ kp_wl) : GoodIn kp_wl (Cond.code y bytes maxL ret :: kp_wl) := fun w hw => (List.mem_cons.mp hw).elim (fun e => by rw [e]; exact kp_wl_good _ hc) (fun h => kp_wl_good w h)
theorem kp_rmle (hd : dd + 1 ≤ d) (hm : maxL ≤ 41) : (kp_rm dd).frames + 1 ≤ (kp_rm d).frames ∧ 8 + (maxL + 11) + (kp_rm dd).locals ≤ (kp_rm d).locals := by
  unfold kp_rm
  exact ⟨hd, by show 8 + (maxL + 11) + 60 * dd ≤ 60 * d; omega⟩
theorem kp_rV {k ci Nf : Nat} {T : u_T} {rs : List (Option Nat)} (C : CallFix p m c cc nL s args kp_wl own) (G : kp_G X N s) (h : kp_H X lay N s σ H locs) (hM : kp_Met l y bytes maxL ret dd X lay N σ (.ref (kp_ad X k) :: As) Qc) (w1 : Cond.methodLink own index y ∈ kp_wl) (w2 : Cond.instanceMethod y ∈ kp_wl) (w3 : Cond.selects y.cls y y ∈ kp_wl) (w4 : Cond.initialized y.cls ∈ kp_wl) (w5 : Cond.code y bytes maxL ret ∈ kp_wl) (hd : y.cls = y.cls ∧ y.cls ≠ "java/lang/invoke/MethodHandle" ∧ y.cls ≠ "java/lang/invoke/VarHandle" ∧ (parseMethodDescriptor y.desc).map (fun d => d.parameters.length) = some n) (hR : dd + 1 ≤ d ∧ maxL ≤ 41) (hL : k < N ∧ lay k = (0, ci, rs)) (hc : vwCl[ci]? = some (y.cls, T, Nf)) (hn : As.length = n) (hl : ls.size = nL) (hst : st = As.reverse ++ .ref (kp_ad X k) :: rest) (hW : (rest.map fun v => v.category).sum ≤ 8) (hdg : decode cc pc = .ok (.invokevirtual index, 3)) : va_Run p l e (kp_rm d) s m args below meth c H locs 0 0 0 0 (F0 m pc ls st) rest (Qc (Value.ref (kp_ad X k) :: As).toArray) (kp_A X N) := by
  refine va_runV C hM (cwV n C.2.2.2.2 ?_ rfl rfl rfl hd (kp_rmle hR.1 hR.2)) ⟨kp_B_blind, va_recv G.1 h.1 hc (kp_obj hL), fun U hU hW => ⟨rfl, kp_B_of G h hU hW⟩⟩ rfl hn hl hst (lv_room hW) hdg ⟨Nat.zero_le _, Nat.zero_le _⟩
  unfold wsV
  refine kp_gapp (fun w hw => ?_) (kp_wsy w5)
  simp only [List.mem_cons, List.not_mem_nil, or_false] at hw
  rcases hw with rfl | rfl | rfl | rfl
  · exact kp_wl_good _ w1
  · exact kp_wl_good _ w2
  · exact kp_wl_good _ w3
  · exact kp_wl_good _ w4
theorem kp_rS (C : CallFix p m c cc nL s args kp_wl own) (G : kp_G X N s) (h : kp_H X lay N s σ H locs) (hM : kp_Met l y bytes maxL ret dd X lay N σ As Qc) (w1 : Cond.methodLink own index y ∈ kp_wl) (w2 : Cond.static y ∈ kp_wl) (w4 : Cond.initialized y.cls ∈ kp_wl) (w5 : Cond.code y bytes maxL ret ∈ kp_wl) (hd : y.cls ≠ "java/lang/invoke/MethodHandle" ∧ y.cls ≠ "java/lang/invoke/VarHandle" ∧ (parseMethodDescriptor y.desc).map (fun d => d.parameters.length) = some n) (hR : dd + 1 ≤ d ∧ maxL ≤ 41) (hn : As.length = n) (hl : ls.size = nL) (hst : st = As.reverse ++ rest) (hW : (rest.map fun v => v.category).sum ≤ 8) (hdg : decode cc pc = .ok (.invokestatic index, 3)) : va_Run p l e (kp_rm d) s m args below meth c H locs 0 0 0 0 (F0 m pc ls st) rest (Qc As.toArray) (kp_A X N) := by
  refine va_runS C hM ⟨callB_of n C.2.2.2.2 (kp_wsy w5) rfl rfl rfl (C.2.2.2.2 _ w4) (C.2.2.2.2 _ w1) hd (kp_rmle hR.1 hR.2), C.2.2.2.2 _ w2⟩ ⟨kp_B_blind, fun U hU hW => ⟨rfl, kp_B_of G h hU hW⟩⟩ rfl hn hl hst (lv_room hW) hdg ⟨Nat.zero_le _, Nat.zero_le _⟩
theorem kp_rSN {host : String} (C : CallFix p m c cc nL s args kp_wl own) (G : kp_G X N s) (h : kp_H X lay N s σ H locs) (hM : kp_Met l y bytes maxL ret dd X lay N σ As Qc) (w1 : (own, index, y, host) ∈ kp_nm) (w2 : Cond.static y ∈ kp_wl) (w4 : Cond.initialized y.cls ∈ kp_wl) (w5 : Cond.code y bytes maxL ret ∈ kp_wl) (hd : y.cls ≠ "java/lang/invoke/MethodHandle" ∧ y.cls ≠ "java/lang/invoke/VarHandle" ∧ (parseMethodDescriptor y.desc).map (fun d => d.parameters.length) = some n) (hR : dd + 1 ≤ d ∧ maxL ≤ 41) (hn : As.length = n) (hl : ls.size = nL) (hst : st = As.reverse ++ rest) (hW : (rest.map fun v => v.category).sum ≤ 8) (hdg : decode cc pc = .ok (.invokestatic index, 3)) : va_Run p l e (kp_rm d) s m args below meth c H locs 0 0 0 0 (F0 m pc ls st) rest (Qc As.toArray) (kp_A X N) := by
  refine va_runSN C hM ⟨va_cnB n C.2.2.2.2 (kp_wsy w5) rfl rfl rfl (G.2.2.2.2.2.2.2.1 _ w1) (C.2.2.2.2 _ w4) hd (kp_rmle hR.1 hR.2), C.2.2.2.2 _ w2, trivial⟩ ⟨kp_B_blind, fun U hU hW => ⟨rfl, kp_B_of G h hU hW⟩⟩ rfl hn hl hst (lv_room hW) hdg ⟨Nat.zero_le _, Nat.zero_le _⟩
theorem kp_ci {a : Array Value} (h : kp_H X lay N s σ H locs) (hr : va_Run p l e R s m args below meth c H locs 0 0 0 0 (F0 m pc ls st) rest (kp_Qi X lay N σ' r a) (kp_A X N)) (kk : ∀ (H1 : Heap) (locs1 : List Loc), kp_H X lay N s σ' H1 locs1 → W p l e R s m args below meth c H1 locs1 0 0 Q (F0 m (pc + 3) ls (kp_iv r :: rest))) : W p l e R s m args below meth c H locs 0 0 Q (F0 m pc ls st) := by
  refine va_calli hr h.2 (fun _ _ z => z) (fun _ z => z) (fun r2 u t H1 locs1 ht hvm hp hB hz hk hS => ?_)
  subst hp
  exact kk H1 locs1 ⟨by rw [← ht]; exact hB.1, hS⟩
theorem kp_cl' {a : Array Value} (h : kp_H X lay N s σ H locs) (hr : va_Run p l e R s m args below meth c H locs 0 0 0 0 (F0 m pc ls st) rest (kp_Ql X lay N σ' r a) (kp_A X N)) (kk : ∀ (H1 : Heap) (locs1 : List Loc), kp_H X lay N s σ' H1 locs1 → W p l e R s m args below meth c H1 locs1 0 0 Q (F0 m (pc + 3) ls (kp_jv r :: rest))) : W p l e R s m args below meth c H locs 0 0 Q (F0 m pc ls st) := by
  refine va_calll hr h.2 (fun _ _ z => z) (fun _ z => z) (fun r2 u t H1 locs1 ht hvm hp hB hz hk hS => ?_)
  subst hp
  exact kk H1 locs1 ⟨by rw [← ht]; exact hB.1, hS⟩
theorem kp_cv {a : Array Value} (h : kp_H X lay N s σ H locs) (hr : va_Run p l e R s m args below meth c H locs 0 0 0 0 (F0 m pc ls st) rest (kp_Qv X lay N σ' a) (kp_A X N)) (kk : ∀ (H1 : Heap) (locs1 : List Loc), kp_H X lay N s σ' H1 locs1 → W p l e R s m args below meth c H1 locs1 0 0 Q (F0 m (pc + 3) ls rest)) : W p l e R s m args below meth c H locs 0 0 Q (F0 m pc ls st) := by
  refine va_callv hr h.2 (fun _ _ z => z) (fun _ z => z) (fun u t H1 locs1 ht hvm hp hB hz hk hS => ?_)
  exact kk H1 locs1 ⟨by rw [← ht]; exact hB.1, hS⟩
-- statics and strings
theorem kp_gets {ref : String} (C : CallFix p m c cc nL s args kp_wl own) (G : kp_G X N s) (h : kp_H X lay N s σ H locs) {i : Nat} (hi : i < 3) (hw : Cond.fieldLink own index (kp_tn i).1 (kp_tn i).2 "[I" ∈ kp_wl) (hdg : decode cc pc = .ok (.getstatic index, 3)) (kk : W p l e R s m args below meth c H locs 0 0 Q (F0 m (pc + 3) ls (.ref (kp_tt X i) :: rest))) : W p l e R s m args below meth c H locs 0 0 Q (F0 m pc ls rest) := va_gets C.1 C.2.1 (G.2.2.1 i hi).1 h.2 C.2.2.2.1 (C.2.2.2.2 _ hw) (fun _ z => z) hdg kk
theorem kp_getsN {host : String} (C : CallFix p m c cc nL s args kp_wl own) (G : kp_G X N s) (h : kp_H X lay N s σ H locs) {i : Nat} (hi : i < 3) (hw : (own, index, (kp_tn i).1, (kp_tn i).2, "[I", host) ∈ kp_nf) (hdg : decode cc pc = .ok (.getstatic index, 3)) (kk : W p l e R s m args below meth c H locs 0 0 Q (F0 m (pc + 3) ls (.ref (kp_tt X i) :: rest))) : W p l e R s m args below meth c H locs 0 0 Q (F0 m pc ls rest) := va_getsN C.1 C.2.1 (G.2.2.1 i hi).1 h.2 C.2.2.2.1 (va_Nw.use rfl (G.2.2.2.2.2.2.2.2 _ hw)) (fun _ z => z) hdg kk
theorem kp_tiald (C : CallFix p m c cc nL s args kp_wl own) (G : kp_G X N s) (h : kp_H X lay N s σ H locs) {i : Nat} (hi : i < 3) {n x : Int} (hn : (kp_tb i).length = n.toNat) (hn2 : n ≤ 2147483647) {r : kp_R} {o : Int × kp_W} (hdg : decode cc pc = .ok (.iaload, 1)) (hF : kp_ck (0 ≤ x ∧ x < n) r = some o) (kk : r = some o → W p l e R s m args below meth c H locs 0 0 Q (F0 m (pc + 1) ls (kp_iv ((kp_tb i).getD x.toNat 0) :: rest))) : W p l e R s m args below meth c H locs 0 0 Q (F0 m pc ls (kp_iv x :: .ref (kp_tt X i) :: rest)) := by
  obtain ⟨a, hF⟩ := kp_ck_s hF
  exact va_ti C.1 C.2.1 (G.2.2.1 i hi).2 h.2 (by rw [hn]; exact kp_vin a hn2) (by rw [kp_clx a hn2]) hdg (kk hF)
theorem kp_ldcS (C : CallFix p m c cc nL s args kp_wl own) (G : kp_G X N s) {tx : String} {i : Nat} (hw : (own, index, tx, i) ∈ kp_sr) (hdg : decode cc pc = .ok (.ldc index, 2)) (kk : W p l e R s m args below meth c H locs 0 0 Q (F0 m (pc + 2) ls (.ref (kp_sK X i) :: rest))) : W p l e R s m args below meth c H locs 0 0 Q (F0 m pc ls rest) := va_ldcS C.1 C.2.1 C.2.2.2.1 (G.2.2.2.2.2.2.1 _ hw) hdg kk
-- Math
theorem kp_mmax {o : Int × kp_W} {f : kp_R} (C : CallFix p m c cc nL s args kp_wl own) (hl : ls.size = nL) {x y : Int} (w1 : Cond.methodLink own index Lib.Math.max.name ∈ kp_wl) (w2 : Cond.static Lib.Math.max.name ∈ kp_wl) (w4 : Cond.initialized "java/lang/Math" ∈ kp_wl) (w5 : Cond.code Lib.Math.max.name Lib.Math.max.code 2 (some .int) ∈ kp_wl) (hd : 1 ≤ d) (hW : (rest.map fun v => v.category).sum ≤ 8) (hdg : decode cc pc = .ok (.invokestatic index, 3)) (hF : kp_ck (kp_in x ∧ kp_in y) f = some o) (kk : f = some o → W p l e (kp_rm d) s m args below meth c H locs 0 0 Q (F0 m (pc + 3) ls (kp_iv (kp_max x y) :: rest))) : W p l e (kp_rm d) s m args below meth c H locs 0 0 Q (F0 m pc ls (kp_iv y :: kp_iv x :: rest)) := by
  obtain ⟨a, hF⟩ := kp_ck_s hF
  have kk := kk hF
  have e1 : kp_iv (kp_max x y) = .int (if Int32.ofInt x < Int32.ofInt y then Int32.ofInt y else Int32.ofInt x) := by
    unfold kp_max kp_iv
    by_cases q : x < y
    · rw [if_pos q, if_pos ((kp_lt_i a.1 a.2).mpr q)]
    · rw [if_neg q, if_neg (fun z => q ((kp_lt_i a.1 a.2).mp z))]
  rw [e1] at kk
  exact va_mmax C.1 C.2.1 (C.2.2.1.trans hl.symm) C.2.2.2.1 (C.2.2.2.2 _ w1) (C.2.2.2.2 _ w2) (C.2.2.2.2 _ w4) (C.2.2.2.2 _ w5) hd (by show _ ≤ 60 * d; omega) (Nat.zero_le _) (Nat.zero_le _) hdg kk
theorem kp_mmin {o : Int × kp_W} {f : kp_R} (C : CallFix p m c cc nL s args kp_wl own) (hl : ls.size = nL) {x y : Int} (w1 : Cond.methodLink own index Lib.Math.min.name ∈ kp_wl) (w2 : Cond.static Lib.Math.min.name ∈ kp_wl) (w4 : Cond.initialized "java/lang/Math" ∈ kp_wl) (w5 : Cond.code Lib.Math.min.name Lib.Math.min.code 2 (some .int) ∈ kp_wl) (hd : 1 ≤ d) (hW : (rest.map fun v => v.category).sum ≤ 8) (hdg : decode cc pc = .ok (.invokestatic index, 3)) (hF : kp_ck (kp_in x ∧ kp_in y) f = some o) (kk : f = some o → W p l e (kp_rm d) s m args below meth c H locs 0 0 Q (F0 m (pc + 3) ls (kp_iv (kp_min x y) :: rest))) : W p l e (kp_rm d) s m args below meth c H locs 0 0 Q (F0 m pc ls (kp_iv y :: kp_iv x :: rest)) := by
  obtain ⟨a, hF⟩ := kp_ck_s hF
  have kk := kk hF
  have e1 : kp_iv (kp_min x y) = .int (if Int32.ofInt y < Int32.ofInt x then Int32.ofInt y else Int32.ofInt x) := by
    unfold kp_min kp_iv
    by_cases q : y < x
    · rw [if_pos q, if_pos ((kp_lt_i a.2 a.1).mpr q)]
    · rw [if_neg q, if_neg (fun z => q ((kp_lt_i a.2 a.1).mp z))]
  rw [e1] at kk
  exact va_mmin C.1 C.2.1 (C.2.2.1.trans hl.symm) C.2.2.2.1 (C.2.2.2.2 _ w1) (C.2.2.2.2 _ w2) (C.2.2.2.2 _ w4) (C.2.2.2.2 _ w5) hd (by show _ ≤ 60 * d; omega) (Nat.zero_le _) (Nat.zero_le _) hdg kk
theorem kp_mabs {o : Int × kp_W} {f : kp_R} (C : CallFix p m c cc nL s args kp_wl own) (hl : ls.size = nL) {x : Int} (w1 : Cond.methodLink own index Lib.Math.abs.name ∈ kp_wl) (w2 : Cond.static Lib.Math.abs.name ∈ kp_wl) (w4 : Cond.initialized "java/lang/Math" ∈ kp_wl) (w5 : Cond.code Lib.Math.abs.name Lib.Math.abs.code 1 (some .int) ∈ kp_wl) (hd : 1 ≤ d) (hW : (rest.map fun v => v.category).sum ≤ 8) (hdg : decode cc pc = .ok (.invokestatic index, 3)) (hF : kp_ck (kp_in x) f = some o) (kk : f = some o → W p l e (kp_rm d) s m args below meth c H locs 0 0 Q (F0 m (pc + 3) ls (kp_iv (kp_abs x) :: rest))) : W p l e (kp_rm d) s m args below meth c H locs 0 0 Q (F0 m pc ls (kp_iv x :: rest)) := by
  obtain ⟨a, hF⟩ := kp_ck_s hF
  have kk := kk hF
  have e1 : kp_iv (kp_abs x) = .int (if Int32.ofInt 0 ≤ Int32.ofInt x then Int32.ofInt x else Int32.ofInt 0 - Int32.ofInt x) := by
    unfold kp_abs kp_iv
    by_cases q : 0 ≤ x
    · rw [if_pos q, if_pos ((kp_le_i kp_in0 a).mpr q)]
    · rw [if_neg q, if_neg (fun z => q ((kp_le_i kp_in0 a).mp z)), ← Int32.ofInt_sub, Int.zero_sub]
  rw [e1] at kk
  exact va_mabs C.1 C.2.1 (C.2.2.1.trans hl.symm) C.2.2.2.1 (C.2.2.2.2 _ w1) (C.2.2.2.2 _ w2) (C.2.2.2.2 _ w4) (C.2.2.2.2 _ w5) hd (by show _ ≤ 60 * d; omega) (Nat.zero_le _) (Nat.zero_le _) hdg kk
end KPC
end
section
section KPM
variable {p : Program} {l : Launch} {e : Env} {R : Room} {s : State} {m : MethodId} {args : Array Value} {below : List Frame} {meth : Method} {c : Code} {H : Heap} {locs : List Loc} {Q : State → Prop}
variable {cc : ByteArray} {nL : Nat} {own : String} {pc : Nat} {ls : Array Slot} {rest : List Value} {X : kp_X} {lay : Nat → kp_D} {N d : Nat} {σ : kp_W} {o : Int × kp_W}
theorem kp_dup2 (C : CallFix p m c cc nL s args kp_wl own) {va vb : Value} (hdg : decode cc pc = .ok (.dup2, 1)) (h1 : va.category = 1) (h2 : vb.category = 1) (k : W p l e R s m args below meth c H locs 0 0 Q (F0 m (pc + 1) ls (va :: vb :: va :: vb :: rest))) : W p l e R s m args below meth c H locs 0 0 Q (F0 m pc ls (va :: vb :: rest)) := lv_dup2_11 C.1 C.2.1 hdg h1 h2 k
theorem kp_tabIn (C : CallFix p m c cc nL s args kp_wl own) {dflt lo hi off x v : Int} {offs : Array Int} {len tgt : Nat} (hdg : decode cc pc = .ok (.tableswitch dflt lo hi offs, len)) (hx : x = v) (hv : kp_in v ∧ lo ≤ v ∧ v ≤ hi) (ho : offs[(v - lo).toNat]? = some off) (ht : (pc : Int) + off = (tgt : Int)) (k : W p l e R s m args below meth c H locs 0 0 Q (F0 m tgt ls rest)) : W p l e R s m args below meth c H locs 0 0 Q (F0 m pc ls (kp_iv x :: rest)) := by
  subst hx
  exact lv_tableIn C.1 C.2.1 hdg (by rw [kp_ti hv.1]; omega) (by rw [kp_ti hv.1]; omega) (by rw [kp_ti hv.1]; exact ho) ht k
theorem kp_tabOut (C : CallFix p m c cc nL s args kp_wl own) {dflt lo hi x : Int} {offs : Array Int} {len tgt : Nat} (hdg : decode cc pc = .ok (.tableswitch dflt lo hi offs, len)) (hx : kp_in x) (hn : x < lo ∨ hi < x) (ht : (pc : Int) + dflt = (tgt : Int)) (k : W p l e R s m args below meth c H locs 0 0 Q (F0 m tgt ls rest)) : W p l e R s m args below meth c H locs 0 0 Q (F0 m pc ls (kp_iv x :: rest)) :=
  lv_tableOut C.1 C.2.1 hdg (by rw [kp_ti hx]; exact hn) ht k
theorem kp_look (C : CallFix p m c cc nL s args kp_wl own) {dflt off x : Int} {ps : Array (Int × Int)} {len tgt : Nat} (hdg : decode cc pc = .ok (.lookupswitch dflt ps, len)) (hp : (ps.toList.zip (ps.toList.drop 1)).all (fun (a, next) => a.1 < next.1) = true) (hx : kp_in x) (ho : Op.lookupswitch.offset ps.toList dflt x = off) (ht : (pc : Int) + off = (tgt : Int)) (k : W p l e R s m args below meth c H locs 0 0 Q (F0 m tgt ls rest)) : W p l e R s m args below meth c H locs 0 0 Q (F0 m pc ls (kp_iv x :: rest)) :=
  lv_lookup C.1 C.2.1 hdg hp (by rw [kp_ti hx]; exact ho) ht k
theorem kp_nn (n : Int) : kp_in n → 0 ≤ n → ¬ Int32.ofInt n < 0 := fun h h0 => by rw [kp_0, kp_lt_i h kp_in0]; omega
def kp_fill (σ : kp_W) (k : Nat) (f : Nat → Int) (n : Nat) : kp_W := fun a b => if a = k ∧ b < n then f b else σ a b
theorem kp_fill_ne {σ : kp_W} {k : Nat} {f : Nat → Int} {n j : Nat} (h : j ≠ k) : kp_fill σ k f n j = σ j := by
  funext b
  unfold kp_fill
  rw [if_neg (fun z => h z.1)]
theorem kp_fill_eq {σ : kp_W} {k : Nat} {f : Nat → Int} {n j : Nat} : kp_fill σ k f n k j = if j < n then f j else σ k j := by
  unfold kp_fill
  by_cases h : j < n
  · rw [if_pos ⟨rfl, h⟩, if_pos h]
  · rw [if_neg (fun z => h z.2), if_neg h]
theorem kp_cpyI {f g : Nat → Int} {n : Nat} : va_cpy (fun j => Int32.ofInt (f j)) (fun j => Int32.ofInt (g j)) 0 0 n = fun j => Int32.ofInt (if j < n then f j else g j) := by
  funext j
  unfold va_cpy
  by_cases q : j < n
  · rw [if_pos ⟨Nat.zero_le _, by omega⟩, if_pos q, Nat.sub_zero, Nat.zero_add]
  · rw [if_neg (by omega), if_neg q]
theorem kp_cpyJ {f g : Nat → Int} {n : Nat} : va_cpy (fun j => Int64.ofInt (f j)) (fun j => Int64.ofInt (g j)) 0 0 n = fun j => Int64.ofInt (if j < n then f j else g j) := by
  funext j
  unfold va_cpy
  by_cases q : j < n
  · rw [if_pos ⟨Nat.zero_le _, by omega⟩, if_pos q, Nat.sub_zero, Nat.zero_add]
  · rw [if_neg (by omega), if_neg q]
theorem kp_nfw {st : List Value} {d : Nat} (hd : 1 ≤ d) (hW : (st.map fun v => v.category).sum ≤ 8) : (st.map fun v => v.category).sum + (nativeFrameWords "java/lang/System" "arraycopy" 5 + 11) ≤ (kp_rm d).locals := by
  have h7 : nativeFrameWords "java/lang/System" "arraycopy" 5 = 7 := by decide +kernel
  show _ ≤ 60 * d
  omega
theorem kp_ac0 : (Int32.ofInt 0).toNatClampNeg = 0 := rfl
/-- System.arraycopy(a, 0, b, 0, n) between two int rows -/
theorem kp_acI (C : CallFix p m c cc nL s args kp_wl own) (G : kp_G X N s) (h : kp_H X lay N s σ H locs) (hl : ls.size = nL) {index k0 k1 n0 n1 : Nat} {n : Int} {rs0 rs1 : List (Option Nat)} (w1 : Cond.methodLink own index arraycopyName ∈ kp_wl) (w2 : Cond.native arraycopyName ∈ kp_wl) (w3 : Cond.static arraycopyName ∈ kp_wl) (w4 : Cond.initialized "java/lang/System" ∈ kp_wl) (hL0 : k0 < N ∧ lay k0 = (1, n0, rs0)) (hL1 : k1 < N ∧ lay k1 = (1, n1, rs1)) (hn : kp_in n ∧ 0 ≤ n ∧ n.toNat ≤ n0 ∧ n.toNat ≤ n1) (hd : 1 ≤ d) (hW : (rest.map fun v => v.category).sum ≤ 8) (hdg : decode cc pc = .ok (.invokestatic index, 3)) {f : kp_W → kp_R} (hF : kp_lt (kp_fill σ k1 (σ k0) n.toNat) f = some o) (kk : ∀ (σ' : kp_W) (H1 : Heap) (locs1 : List Loc), kp_H X lay N s σ' H1 locs1 → f σ' = some o → W p l e (kp_rm d) s m args below meth c H1 locs1 0 0 Q (F0 m (pc + 3) ls rest)) : W p l e (kp_rm d) s m args below meth c H locs 0 0 Q (F0 m pc ls (kp_iv n :: kp_iv 0 :: .ref (kp_ad X k1) :: kp_iv 0 :: .ref (kp_ad X k0) :: rest)) := by
  have hc : (Int32.ofInt n).toNatClampNeg = n.toNat := kp_cl hn.1
  refine va_copyi C.1 C.2.1 (C.2.2.1.trans hl.symm) C.2.2.2.1 (C.2.2.2.2 _ w1) (C.2.2.2.2 _ w2) (C.2.2.2.2 _ w3) (C.2.2.2.2 _ w4) G.1 h.1 (kp_ws_D G.2.1) h.2 k0 k1 0 0 (kp_arr hL0) (kp_arr hL1) (ty := .int) rfl rfl rfl (sp := Int32.ofInt 0) (dp := Int32.ofInt 0) (n := Int32.ofInt n) (by decide) (by decide) (kp_nn n hn.1 hn.2.1) (by rw [hc, kp_ac0]; omega) (by rw [hc, kp_ac0]; omega) (fun _ _ => rfl) hd (kp_nfw hd hW) hdg (fun H1 locs1 hP _ hS => kk (kp_fill σ k1 (σ k0) n.toNat) H1 locs1 ⟨?_, hS⟩ hF)
  rw [hc, kp_ac0, kp_cpyI, kp_ws_set (σ' := kp_fill σ k1 (σ k0) n.toNat) hL1.1 (by rw [hL1.2]; show Sum.inl _ = Sum.inl _; congr 4; funext j; rw [kp_fill_eq]) (fun _ hq => kp_fill_ne hq)] at hP
  exact hP
theorem kp_acJ (C : CallFix p m c cc nL s args kp_wl own) (G : kp_G X N s) (h : kp_H X lay N s σ H locs) (hl : ls.size = nL) {index k0 k1 n0 n1 : Nat} {n : Int} {rs0 rs1 : List (Option Nat)} (w1 : Cond.methodLink own index arraycopyName ∈ kp_wl) (w2 : Cond.native arraycopyName ∈ kp_wl) (w3 : Cond.static arraycopyName ∈ kp_wl) (w4 : Cond.initialized "java/lang/System" ∈ kp_wl) (hL0 : k0 < N ∧ lay k0 = (2, n0, rs0)) (hL1 : k1 < N ∧ lay k1 = (2, n1, rs1)) (hn : kp_in n ∧ 0 ≤ n ∧ n.toNat ≤ n0 ∧ n.toNat ≤ n1) (hd : 1 ≤ d) (hW : (rest.map fun v => v.category).sum ≤ 8) (hdg : decode cc pc = .ok (.invokestatic index, 3)) {f : kp_W → kp_R} (hF : kp_lt (kp_fill σ k1 (σ k0) n.toNat) f = some o) (kk : ∀ (σ' : kp_W) (H1 : Heap) (locs1 : List Loc), kp_H X lay N s σ' H1 locs1 → f σ' = some o → W p l e (kp_rm d) s m args below meth c H1 locs1 0 0 Q (F0 m (pc + 3) ls rest)) : W p l e (kp_rm d) s m args below meth c H locs 0 0 Q (F0 m pc ls (kp_iv n :: kp_iv 0 :: .ref (kp_ad X k1) :: kp_iv 0 :: .ref (kp_ad X k0) :: rest)) := by
  have hc : (Int32.ofInt n).toNatClampNeg = n.toNat := kp_cl hn.1
  refine va_copyl C.1 C.2.1 (C.2.2.1.trans hl.symm) C.2.2.2.1 (C.2.2.2.2 _ w1) (C.2.2.2.2 _ w2) (C.2.2.2.2 _ w3) (C.2.2.2.2 _ w4) G.1 h.1 (kp_ws_D G.2.1) h.2 k0 k1 1 1 (kp_arrL hL0) (kp_arrL hL1) (ty := .long) rfl rfl rfl (sp := Int32.ofInt 0) (dp := Int32.ofInt 0) (n := Int32.ofInt n) (by decide) (by decide) (kp_nn n hn.1 hn.2.1) (by rw [hc, kp_ac0]; omega) (by rw [hc, kp_ac0]; omega) (fun _ _ => rfl) hd (kp_nfw hd hW) hdg (fun H1 locs1 hP _ hS => kk (kp_fill σ k1 (σ k0) n.toNat) H1 locs1 ⟨?_, hS⟩ hF)
  rw [hc, kp_ac0, kp_cpyJ, kp_ws_set (σ' := kp_fill σ k1 (σ k0) n.toNat) hL1.1 (by rw [hL1.2]; show Sum.inl _ = Sum.inl _; congr 5; funext j; rw [kp_fill_eq]) (fun _ hq => kp_fill_ne hq)] at hP
  exact hP
theorem kp_acZ (C : CallFix p m c cc nL s args kp_wl own) (G : kp_G X N s) (h : kp_H X lay N s σ H locs) (hl : ls.size = nL) {index k0 k1 n0 n1 : Nat} {n : Int} {rs0 rs1 : List (Option Nat)} (w1 : Cond.methodLink own index arraycopyName ∈ kp_wl) (w2 : Cond.native arraycopyName ∈ kp_wl) (w3 : Cond.static arraycopyName ∈ kp_wl) (w4 : Cond.initialized "java/lang/System" ∈ kp_wl) (hL0 : k0 < N ∧ lay k0 = (3, n0, rs0)) (hL1 : k1 < N ∧ lay k1 = (3, n1, rs1)) (hn : kp_in n ∧ 0 ≤ n ∧ n.toNat ≤ n0 ∧ n.toNat ≤ n1) (hd : 1 ≤ d) (hW : (rest.map fun v => v.category).sum ≤ 8) (hdg : decode cc pc = .ok (.invokestatic index, 3)) {f : kp_W → kp_R} (hF : kp_ck (∀ i, i < n.toNat → σ k0 i = 0 ∨ σ k0 i = 1) (kp_lt (kp_fill σ k1 (σ k0) n.toNat) f) = some o) (kk : ∀ (σ' : kp_W) (H1 : Heap) (locs1 : List Loc), kp_H X lay N s σ' H1 locs1 → f σ' = some o → W p l e (kp_rm d) s m args below meth c H1 locs1 0 0 Q (F0 m (pc + 3) ls rest)) : W p l e (kp_rm d) s m args below meth c H locs 0 0 Q (F0 m pc ls (kp_iv n :: kp_iv 0 :: .ref (kp_ad X k1) :: kp_iv 0 :: .ref (kp_ad X k0) :: rest)) := by
  obtain ⟨hz, hF⟩ := kp_ck_s hF
  have hc : (Int32.ofInt n).toNatClampNeg = n.toNat := kp_cl hn.1
  refine va_copyi C.1 C.2.1 (C.2.2.1.trans hl.symm) C.2.2.2.1 (C.2.2.2.2 _ w1) (C.2.2.2.2 _ w2) (C.2.2.2.2 _ w3) (C.2.2.2.2 _ w4) G.1 h.1 (kp_ws_D G.2.1) h.2 k0 k1 2 2 (kp_arrZ hL0) (kp_arrZ hL1) (ty := .boolean) rfl rfl rfl (sp := Int32.ofInt 0) (dp := Int32.ofInt 0) (n := Int32.ofInt n) (by decide) (by decide) (kp_nn n hn.1 hn.2.1) (by rw [hc, kp_ac0]; omega) (by rw [hc, kp_ac0]; omega) (fun i hi => by rw [hc] at hi; rw [kp_ac0, Nat.zero_add]; rcases hz i hi with q | q <;> rw [q] <;> rfl) hd (kp_nfw hd hW) hdg (fun H1 locs1 hP _ hS => kk (kp_fill σ k1 (σ k0) n.toNat) H1 locs1 ⟨?_, hS⟩ hF)
  rw [hc, kp_ac0, kp_cpyI, kp_ws_set (σ' := kp_fill σ k1 (σ k0) n.toNat) hL1.1 (by rw [hL1.2]; show Sum.inl _ = Sum.inl _; congr 4; funext j; rw [kp_fill_eq]) (fun _ hq => kp_fill_ne hq)] at hP
  exact hP
/-- System.arraycopy(a static int row, 0, b, 0, n) -/
theorem kp_acT (C : CallFix p m c cc nL s args kp_wl own) (G : kp_G X N s) (h : kp_H X lay N s σ H locs) (hl : ls.size = nL) {index i k1 n0 n1 : Nat} {n : Int} {rs1 : List (Option Nat)} (w1 : Cond.methodLink own index arraycopyName ∈ kp_wl) (w2 : Cond.native arraycopyName ∈ kp_wl) (w3 : Cond.static arraycopyName ∈ kp_wl) (w4 : Cond.initialized "java/lang/System" ∈ kp_wl) (hi : i < 3) (hL0 : (kp_tb i).length = n0) (hL1 : k1 < N ∧ lay k1 = (1, n1, rs1)) (hn : kp_in n ∧ 0 ≤ n ∧ n.toNat ≤ n0 ∧ n.toNat ≤ n1) (hd : 1 ≤ d) (hW : (rest.map fun v => v.category).sum ≤ 8) (hdg : decode cc pc = .ok (.invokestatic index, 3)) {f : kp_W → kp_R} (hF : kp_lt (kp_fill σ k1 (fun j => (kp_tb i).getD j 0) n.toNat) f = some o) (kk : ∀ (σ' : kp_W) (H1 : Heap) (locs1 : List Loc), kp_H X lay N s σ' H1 locs1 → f σ' = some o → W p l e (kp_rm d) s m args below meth c H1 locs1 0 0 Q (F0 m (pc + 3) ls rest)) : W p l e (kp_rm d) s m args below meth c H locs 0 0 Q (F0 m pc ls (kp_iv n :: kp_iv 0 :: .ref (kp_ad X k1) :: kp_iv 0 :: .ref (kp_tt X i) :: rest)) := by
  have hc : (Int32.ofInt n).toNatClampNeg = n.toNat := kp_cl hn.1
  have h3 := kp_nn n hn.1 hn.2.1
  have e3 : (Int32.ofInt n).toInt = (n.toNat : Int) := by rw [kp_ti hn.1]; omega
  have hP := h.1
  have hS := h.2
  have hD := kp_ws_D (X := X) (lay := lay) (σ := σ) G.2.1
  have ha1 := kp_arr (X := X) (σ := σ) hL1
  intro T hT Y
  obtain ⟨scr, hs1, hs2, hs3, hs4, -, hs5, hs7⟩ := (G.2.2.1 i hi).2
  rw [hL0] at hs4 hs5
  have hc0 : H[kp_tt X i]? = some scr := by rw [hS.2.1 _ (Array.getElem?_eq_some_iff.mp hs1).1 hs7]; exact hs1
  have hc1 : H[kp_ad X k1]? = some (vp_cell (kp_cy X 0) (n1, .inl fun j => Int32.ofInt (σ k1 j))) := hP k1 _ ha1
  obtain ⟨hs6, c0, hk0, cm0, hkk0⟩ := hs2
  obtain ⟨-, c1, hk1, cm1, hkk1⟩ := (G.1.2 0 _ rfl).1 n1 (fun j => .int (Int32.ofInt (σ k1 j)))
  obtain ⟨vm', Y', step⟩ := Y.arraycopy C.1 C.2.2.2.1 (C.2.2.2.2 _ w1) (C.2.2.2.2 _ w2) (C.2.2.2.2 _ w3) (C.2.2.2.2 _ w4) (src := kp_tt X i) (dst := kp_ad X k1) (cs := scr) (cd := vp_cell (kp_cy X 0) (n1, .inl fun j => Int32.ofInt (σ k1 j))) (srcPos := Int32.ofInt 0) (destPos := Int32.ofInt 0) (n := Int32.ofInt n) (by rw [hT]; exact hc0) (by rw [hT]; exact hc1)
    hs6 (fun _ h => by cases h) hs3 (fun h => by cases h) hk0 hk1 hkk0 hkk1 (by simp [refKind]) (by decide) (by decide) h3
    (by show ¬ (Int32.ofInt 0).toInt + (Int32.ofInt n).toInt > _; rw [e3, kp_ti kp_in0]; omega)
    (by show ¬ (Int32.ofInt 0).toInt + (Int32.ofInt n).toInt > ((arrV (kp_cy X 0) n1 (fun j => .int (Int32.ofInt (σ k1 j)))).slots.size : Int); rw [arrV_size, e3, kp_ti kp_in0]; omega)
    (fun vm₁ _ j hj => by
      rw [hc] at hj
      have e : scr.slots.getD ((Int32.ofInt 0).toNatClampNeg + j) .null = .int (Int32.ofInt ((kp_tb i).getD j 0)) := by
        rw [kp_ac0, Nat.zero_add, Array.getD_eq_getD_getElem?, hs5 _ (by omega)]
        rfl
      refine ⟨?_, ?_⟩
      · rw [e]
        rfl
      · rw [e]
        exact trivial)
    (g := F0 m pc ls (kp_iv n :: kp_iv 0 :: .ref (kp_ad X k1) :: kp_iv 0 :: .ref (kp_tt X i) :: rest)) rfl (hl.trans C.2.2.1.symm) (rest := rest) rfl (by rw [C.2.1]; exact hdg) hd (by have := kp_nfw hd hW; show 2 * 0 + _ + _ ≤ _; omega)
  have e1 : copied scr (vp_cell (kp_cy X 0) (n1, .inl fun j => Int32.ofInt (σ k1 j))) (Int32.ofInt 0) (Int32.ofInt 0) (Int32.ofInt n) = vp_cell (kp_cy X 0) (n1, .inl (va_cpy (fun j => Int32.ofInt ((kp_tb i).getD j 0)) (fun j => Int32.ofInt (σ k1 j)) (Int32.ofInt 0).toNatClampNeg (Int32.ofInt 0).toNatClampNeg (Int32.ofInt n).toNatClampNeg)) := va_copiedX (fun z => .int z) scr (kp_cy X 0) (fun j => Int32.ofInt ((kp_tb i).getD j 0)) (fun j => Int32.ofInt (σ k1 j)) hs5 (by rw [hc, kp_ac0]; omega)
  rw [e1, hc, kp_ac0, kp_cpyI] at Y' step
  have hlt : kp_ad X k1 < H.size := (Array.getElem?_eq_some_iff.mp hc1).1
  generalize hcell : vp_cell (kp_cy X 0) (n1, .inl fun j => Int32.ofInt (if j < n.toNat then (kp_tb i).getD j 0 else σ k1 j)) = cell at Y' step
  have hheap : ((T.setVm vm').setCell (kp_ad X k1) cell).heap = H.setIfInBounds (kp_ad X k1) cell := by rw [← hT]; rfl
  have oq : ∀ q : Nat, q ≠ kp_ad X k1 → (H.setIfInBounds (kp_ad X k1) cell)[q]? = H[q]? := fun q hq => by simp [Array.getElem?_setIfInBounds, Ne.symm hq]
  have hP2 := hP.set hD ha1 (e := .inl (kp_cy X 0, n1, .inl fun j => Int32.ofInt (if j < n.toNat then (kp_tb i).getD j 0 else σ k1 j))) (H1 := H.setIfInBounds (kp_ad X k1) cell) (show (H.setIfInBounds (kp_ad X k1) cell)[kp_ad X k1]? = some _ by rw [← hcell] at *; simp [Array.getElem?_setIfInBounds, hlt]) oq
  rw [kp_ws_set (σ' := kp_fill σ k1 (fun j => (kp_tb i).getD j 0) n.toNat) hL1.1 (by rw [hL1.2]; show Sum.inl _ = Sum.inl _; congr 4; funext j; rw [kp_fill_eq]) (fun _ hq => kp_fill_ne hq)] at hP2
  obtain ⟨t, a1, b1⟩ := kk _ _ _ ⟨hP2, ⟨by simp; exact hS.1, fun q g1 g2 => by
      rw [oq q (fun e => g2 (by rw [e]; exact ⟨k1, hL1.1, rfl⟩))]
      exact hS.2.1 q g1 g2, fun q hq => by
      rcases List.mem_append.mp hq with h | h
      · exact hS.2.2 q h
      · obtain ⟨z, -, hz⟩ := List.mem_map.mp h
        rw [← hz]
        exact ⟨k1, hL1.1, rfl⟩⟩⟩ hF _ hheap Y'
  exact ⟨t, step t a1, b1⟩
end KPM
end
