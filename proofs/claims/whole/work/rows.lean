section
-- begun as the printed texts: the skeleton's PART A and NAMES.whole (cut by wip/whole/gen/names.py)
/-- a private method of a class that the tables say can be made, by its rows of tables_1 -/
def lw_okq (q : MethodName × Nat) : Prop := (q.1.cls ≠ "java/lang/invoke/MethodHandle" ∧ q.1.cls ≠ "java/lang/invoke/VarHandle") ∧ Cond.instantiable q.1.cls q.2 ∈ tables_1 ∧ Cond.privateMethod q.1 ∈ tables_1 ∧ Cond.instanceMethod q.1 ∈ tables_1
theorem lw_p0 : lw_okq (⟨"KnockPipes$Reader", "clause", "()Z"⟩, 3) := ⟨⟨by decide +kernel, by decide +kernel⟩, List.mem_of_getElem? (i := 183) (by decide +kernel), List.mem_of_getElem? (i := 313) (by decide +kernel), List.mem_of_getElem? (i := 314) (by decide +kernel)⟩
theorem lw_p1 : lw_okq (⟨"KnockPipes$Reader", "word", "()I"⟩, 3) := ⟨⟨by decide +kernel, by decide +kernel⟩, List.mem_of_getElem? (i := 183) (by decide +kernel), List.mem_of_getElem? (i := 317) (by decide +kernel), List.mem_of_getElem? (i := 318) (by decide +kernel)⟩
theorem lw_p2 : lw_okq (⟨"KnockPipes$Reader", "peek", "()I"⟩, 3) := ⟨⟨by decide +kernel, by decide +kernel⟩, List.mem_of_getElem? (i := 183) (by decide +kernel), List.mem_of_getElem? (i := 362) (by decide +kernel), List.mem_of_getElem? (i := 363) (by decide +kernel)⟩
theorem lw_p3 : lw_okq (⟨"KnockPipes$Reader", "eats", "(C)Z"⟩, 3) := ⟨⟨by decide +kernel, by decide +kernel⟩, List.mem_of_getElem? (i := 183) (by decide +kernel), List.mem_of_getElem? (i := 366) (by decide +kernel), List.mem_of_getElem? (i := 367) (by decide +kernel)⟩
theorem lw_p4 : lw_okq (⟨"KnockPipes$Reader", "number", "()I"⟩, 3) := ⟨⟨by decide +kernel, by decide +kernel⟩, List.mem_of_getElem? (i := 183) (by decide +kernel), List.mem_of_getElem? (i := 370) (by decide +kernel), List.mem_of_getElem? (i := 371) (by decide +kernel)⟩
theorem lw_p5 : lw_okq (⟨"KnockPipes$Reader", "digit", "()I"⟩, 3) := ⟨⟨by decide +kernel, by decide +kernel⟩, List.mem_of_getElem? (i := 183) (by decide +kernel), List.mem_of_getElem? (i := 374) (by decide +kernel), List.mem_of_getElem? (i := 375) (by decide +kernel)⟩
theorem lw_p6 : lw_okq (⟨"KnockPipes$Reader", "either", "(I)Z"⟩, 3) := ⟨⟨by decide +kernel, by decide +kernel⟩, List.mem_of_getElem? (i := 183) (by decide +kernel), List.mem_of_getElem? (i := 378) (by decide +kernel), List.mem_of_getElem? (i := 379) (by decide +kernel)⟩
theorem lw_p7 : lw_okq (⟨"KnockPipes$Reader", "both", "(I)Z"⟩, 3) := ⟨⟨by decide +kernel, by decide +kernel⟩, List.mem_of_getElem? (i := 183) (by decide +kernel), List.mem_of_getElem? (i := 382) (by decide +kernel), List.mem_of_getElem? (i := 383) (by decide +kernel)⟩
theorem lw_p8 : lw_okq (⟨"KnockPipes$Reader", "factor", "(I)Z"⟩, 3) := ⟨⟨by decide +kernel, by decide +kernel⟩, List.mem_of_getElem? (i := 183) (by decide +kernel), List.mem_of_getElem? (i := 386) (by decide +kernel), List.mem_of_getElem? (i := 387) (by decide +kernel)⟩
theorem lw_p9 : lw_okq (⟨"KnockPipes$Reader", "test", "()Z"⟩, 3) := ⟨⟨by decide +kernel, by decide +kernel⟩, List.mem_of_getElem? (i := 183) (by decide +kernel), List.mem_of_getElem? (i := 390) (by decide +kernel), List.mem_of_getElem? (i := 391) (by decide +kernel)⟩
theorem lw_p10 : lw_okq (⟨"KnockPipes$Reader", "oneOf", "(Ljava/lang/String;)I"⟩, 3) := ⟨⟨by decide +kernel, by decide +kernel⟩, List.mem_of_getElem? (i := 183) (by decide +kernel), List.mem_of_getElem? (i := 395) (by decide +kernel), List.mem_of_getElem? (i := 396) (by decide +kernel)⟩
theorem lw_p11 : lw_okq (⟨"KnockPipes", "settle", "()V"⟩, 8) := ⟨⟨by decide +kernel, by decide +kernel⟩, List.mem_of_getElem? (i := 21) (by decide +kernel), List.mem_of_getElem? (i := 435) (by decide +kernel), List.mem_of_getElem? (i := 436) (by decide +kernel)⟩
theorem lw_p12 : lw_okq (⟨"KnockPipes$Sounds", "holds", "(LKnockPipes$House;IILKnockPipes$Noises;I)J"⟩, 6) := ⟨⟨by decide +kernel, by decide +kernel⟩, List.mem_of_getElem? (i := 205) (by decide +kernel), List.mem_of_getElem? (i := 444) (by decide +kernel), List.mem_of_getElem? (i := 445) (by decide +kernel)⟩
theorem lw_p13 : lw_okq (⟨"KnockPipes", "ring", "(JJJ)V"⟩, 8) := ⟨⟨by decide +kernel, by decide +kernel⟩, List.mem_of_getElem? (i := 21) (by decide +kernel), List.mem_of_getElem? (i := 475) (by decide +kernel), List.mem_of_getElem? (i := 476) (by decide +kernel)⟩
theorem lw_p14 : lw_okq (⟨"KnockPipes$Sounds", "tick", "(IZ)V"⟩, 6) := ⟨⟨by decide +kernel, by decide +kernel⟩, List.mem_of_getElem? (i := 205) (by decide +kernel), List.mem_of_getElem? (i := 493) (by decide +kernel), List.mem_of_getElem? (i := 494) (by decide +kernel)⟩
theorem lw_p15 : lw_okq (⟨"KnockPipes$Sounds", "mark", "(IJIJ)V"⟩, 6) := ⟨⟨by decide +kernel, by decide +kernel⟩, List.mem_of_getElem? (i := 205) (by decide +kernel), List.mem_of_getElem? (i := 508) (by decide +kernel), List.mem_of_getElem? (i := 509) (by decide +kernel)⟩
def lw_privs_1 : List (MethodName × Nat) := [(⟨"KnockPipes$Reader", "clause", "()Z"⟩, 3), (⟨"KnockPipes$Reader", "word", "()I"⟩, 3), (⟨"KnockPipes$Reader", "peek", "()I"⟩, 3), (⟨"KnockPipes$Reader", "eats", "(C)Z"⟩, 3), (⟨"KnockPipes$Reader", "number", "()I"⟩, 3), (⟨"KnockPipes$Reader", "digit", "()I"⟩, 3), (⟨"KnockPipes$Reader", "either", "(I)Z"⟩, 3), (⟨"KnockPipes$Reader", "both", "(I)Z"⟩, 3), (⟨"KnockPipes$Reader", "factor", "(I)Z"⟩, 3), (⟨"KnockPipes$Reader", "test", "()Z"⟩, 3), (⟨"KnockPipes$Reader", "oneOf", "(Ljava/lang/String;)I"⟩, 3), (⟨"KnockPipes", "settle", "()V"⟩, 8), (⟨"KnockPipes$Sounds", "holds", "(LKnockPipes$House;IILKnockPipes$Noises;I)J"⟩, 6), (⟨"KnockPipes", "ring", "(JJJ)V"⟩, 8), (⟨"KnockPipes$Sounds", "tick", "(IZ)V"⟩, 6), (⟨"KnockPipes$Sounds", "mark", "(IJIJ)V"⟩, 6)]
theorem lw_r1 : ∀ q ∈ lw_privs_1, lw_okq q := List.forall_mem_cons.mpr ⟨lw_p0, List.forall_mem_cons.mpr ⟨lw_p1, List.forall_mem_cons.mpr ⟨lw_p2, List.forall_mem_cons.mpr ⟨lw_p3, List.forall_mem_cons.mpr ⟨lw_p4, List.forall_mem_cons.mpr ⟨lw_p5, List.forall_mem_cons.mpr ⟨lw_p6, List.forall_mem_cons.mpr ⟨lw_p7, List.forall_mem_cons.mpr ⟨lw_p8, List.forall_mem_cons.mpr ⟨lw_p9, List.forall_mem_cons.mpr ⟨lw_p10, List.forall_mem_cons.mpr ⟨lw_p11, List.forall_mem_cons.mpr ⟨lw_p12, List.forall_mem_cons.mpr ⟨lw_p13, List.forall_mem_cons.mpr ⟨lw_p14, List.forall_mem_cons.mpr ⟨lw_p15, fun _ h => absurd h List.not_mem_nil⟩⟩⟩⟩⟩⟩⟩⟩⟩⟩⟩⟩⟩⟩⟩⟩
theorem lw_p16 : lw_okq (⟨"KnockPipes", "loudOf", "(IIII)I"⟩, 8) := ⟨⟨by decide +kernel, by decide +kernel⟩, List.mem_of_getElem? (i := 21) (by decide +kernel), List.mem_of_getElem? (i := 560) (by decide +kernel), List.mem_of_getElem? (i := 561) (by decide +kernel)⟩
theorem lw_p17 : lw_okq (⟨"KnockPipes", "heardInDay", "(I)I"⟩, 8) := ⟨⟨by decide +kernel, by decide +kernel⟩, List.mem_of_getElem? (i := 21) (by decide +kernel), List.mem_of_getElem? (i := 575) (by decide +kernel), List.mem_of_getElem? (i := 576) (by decide +kernel)⟩
theorem lw_p18 : lw_okq (⟨"KnockPipes", "heardAt", "(II)I"⟩, 8) := ⟨⟨by decide +kernel, by decide +kernel⟩, List.mem_of_getElem? (i := 21) (by decide +kernel), List.mem_of_getElem? (i := 579) (by decide +kernel), List.mem_of_getElem? (i := 580) (by decide +kernel)⟩
theorem lw_p19 : lw_okq (⟨"KnockPipes", "heardAlone", "(III)I"⟩, 8) := ⟨⟨by decide +kernel, by decide +kernel⟩, List.mem_of_getElem? (i := 21) (by decide +kernel), List.mem_of_getElem? (i := 583) (by decide +kernel), List.mem_of_getElem? (i := 584) (by decide +kernel)⟩
theorem lw_p20 : lw_okq (⟨"KnockPipes", "heardOf", "(IIII)I"⟩, 8) := ⟨⟨by decide +kernel, by decide +kernel⟩, List.mem_of_getElem? (i := 21) (by decide +kernel), List.mem_of_getElem? (i := 587) (by decide +kernel), List.mem_of_getElem? (i := 588) (by decide +kernel)⟩
theorem lw_p21 : lw_okq (⟨"KnockPipes", "loudOfAll", "(II)I"⟩, 8) := ⟨⟨by decide +kernel, by decide +kernel⟩, List.mem_of_getElem? (i := 21) (by decide +kernel), List.mem_of_getElem? (i := 595) (by decide +kernel), List.mem_of_getElem? (i := 596) (by decide +kernel)⟩
theorem lw_p22 : lw_okq (⟨"KnockPipes", "fittingRows", "(I)I"⟩, 8) := ⟨⟨by decide +kernel, by decide +kernel⟩, List.mem_of_getElem? (i := 21) (by decide +kernel), List.mem_of_getElem? (i := 615) (by decide +kernel), List.mem_of_getElem? (i := 616) (by decide +kernel)⟩
theorem lw_p23 : lw_okq (⟨"KnockPipes", "mostFitting", "()I"⟩, 8) := ⟨⟨by decide +kernel, by decide +kernel⟩, List.mem_of_getElem? (i := 21) (by decide +kernel), List.mem_of_getElem? (i := 636) (by decide +kernel), List.mem_of_getElem? (i := 637) (by decide +kernel)⟩
theorem lw_p24 : lw_okq (⟨"KnockPipes", "allFitting", "()I"⟩, 8) := ⟨⟨by decide +kernel, by decide +kernel⟩, List.mem_of_getElem? (i := 21) (by decide +kernel), List.mem_of_getElem? (i := 640) (by decide +kernel), List.mem_of_getElem? (i := 641) (by decide +kernel)⟩
theorem lw_p25 : lw_okq (⟨"KnockPipes", "fitsAllRows", "(I)Z"⟩, 8) := ⟨⟨by decide +kernel, by decide +kernel⟩, List.mem_of_getElem? (i := 21) (by decide +kernel), List.mem_of_getElem? (i := 644) (by decide +kernel), List.mem_of_getElem? (i := 645) (by decide +kernel)⟩
theorem lw_p26 : lw_okq (⟨"KnockPipes", "shareOf", "(II)I"⟩, 8) := ⟨⟨by decide +kernel, by decide +kernel⟩, List.mem_of_getElem? (i := 21) (by decide +kernel), List.mem_of_getElem? (i := 648) (by decide +kernel), List.mem_of_getElem? (i := 649) (by decide +kernel)⟩
theorem lw_p27 : lw_okq (⟨"KnockPipes", "worst", "()I"⟩, 8) := ⟨⟨by decide +kernel, by decide +kernel⟩, List.mem_of_getElem? (i := 21) (by decide +kernel), List.mem_of_getElem? (i := 652) (by decide +kernel), List.mem_of_getElem? (i := 653) (by decide +kernel)⟩
theorem lw_p28 : lw_okq (⟨"KnockPipes", "harmOf", "(I)I"⟩, 8) := ⟨⟨by decide +kernel, by decide +kernel⟩, List.mem_of_getElem? (i := 21) (by decide +kernel), List.mem_of_getElem? (i := 656) (by decide +kernel), List.mem_of_getElem? (i := 657) (by decide +kernel)⟩
theorem lw_p29 : lw_okq (⟨"KnockPipes", "mostAlike", "(II)I"⟩, 8) := ⟨⟨by decide +kernel, by decide +kernel⟩, List.mem_of_getElem? (i := 21) (by decide +kernel), List.mem_of_getElem? (i := 664) (by decide +kernel), List.mem_of_getElem? (i := 665) (by decide +kernel)⟩
theorem lw_p30 : lw_okq (⟨"KnockPipes", "heardInDayOf", "(II)I"⟩, 8) := ⟨⟨by decide +kernel, by decide +kernel⟩, List.mem_of_getElem? (i := 21) (by decide +kernel), List.mem_of_getElem? (i := 676) (by decide +kernel), List.mem_of_getElem? (i := 677) (by decide +kernel)⟩
theorem lw_p31 : lw_okq (⟨"KnockPipes", "rowsHeard", "()I"⟩, 8) := ⟨⟨by decide +kernel, by decide +kernel⟩, List.mem_of_getElem? (i := 21) (by decide +kernel), List.mem_of_getElem? (i := 706) (by decide +kernel), List.mem_of_getElem? (i := 707) (by decide +kernel)⟩
def lw_privs_2 : List (MethodName × Nat) := [(⟨"KnockPipes", "loudOf", "(IIII)I"⟩, 8), (⟨"KnockPipes", "heardInDay", "(I)I"⟩, 8), (⟨"KnockPipes", "heardAt", "(II)I"⟩, 8), (⟨"KnockPipes", "heardAlone", "(III)I"⟩, 8), (⟨"KnockPipes", "heardOf", "(IIII)I"⟩, 8), (⟨"KnockPipes", "loudOfAll", "(II)I"⟩, 8), (⟨"KnockPipes", "fittingRows", "(I)I"⟩, 8), (⟨"KnockPipes", "mostFitting", "()I"⟩, 8), (⟨"KnockPipes", "allFitting", "()I"⟩, 8), (⟨"KnockPipes", "fitsAllRows", "(I)Z"⟩, 8), (⟨"KnockPipes", "shareOf", "(II)I"⟩, 8), (⟨"KnockPipes", "worst", "()I"⟩, 8), (⟨"KnockPipes", "harmOf", "(I)I"⟩, 8), (⟨"KnockPipes", "mostAlike", "(II)I"⟩, 8), (⟨"KnockPipes", "heardInDayOf", "(II)I"⟩, 8), (⟨"KnockPipes", "rowsHeard", "()I"⟩, 8)]
theorem lw_r2 : ∀ q ∈ lw_privs_2, lw_okq q := List.forall_mem_cons.mpr ⟨lw_p16, List.forall_mem_cons.mpr ⟨lw_p17, List.forall_mem_cons.mpr ⟨lw_p18, List.forall_mem_cons.mpr ⟨lw_p19, List.forall_mem_cons.mpr ⟨lw_p20, List.forall_mem_cons.mpr ⟨lw_p21, List.forall_mem_cons.mpr ⟨lw_p22, List.forall_mem_cons.mpr ⟨lw_p23, List.forall_mem_cons.mpr ⟨lw_p24, List.forall_mem_cons.mpr ⟨lw_p25, List.forall_mem_cons.mpr ⟨lw_p26, List.forall_mem_cons.mpr ⟨lw_p27, List.forall_mem_cons.mpr ⟨lw_p28, List.forall_mem_cons.mpr ⟨lw_p29, List.forall_mem_cons.mpr ⟨lw_p30, List.forall_mem_cons.mpr ⟨lw_p31, fun _ h => absurd h List.not_mem_nil⟩⟩⟩⟩⟩⟩⟩⟩⟩⟩⟩⟩⟩⟩⟩⟩
theorem lw_p32 : lw_okq (⟨"KnockPipes$Acts", "send", "(IIII)I"⟩, 5) := ⟨⟨by decide +kernel, by decide +kernel⟩, List.mem_of_getElem? (i := 231) (by decide +kernel), List.mem_of_getElem? (i := 722) (by decide +kernel), List.mem_of_getElem? (i := 723) (by decide +kernel)⟩
theorem lw_p33 : lw_okq (⟨"KnockPipes$Acts", "run", "(IIII)I"⟩, 5) := ⟨⟨by decide +kernel, by decide +kernel⟩, List.mem_of_getElem? (i := 231) (by decide +kernel), List.mem_of_getElem? (i := 730) (by decide +kernel), List.mem_of_getElem? (i := 731) (by decide +kernel)⟩
theorem lw_p34 : lw_okq (⟨"KnockPipesModel", "clauseHere", "()V"⟩, 26) := ⟨⟨by decide +kernel, by decide +kernel⟩, List.mem_of_getElem? (i := 771) (by decide +kernel), List.mem_of_getElem? (i := 872) (by decide +kernel), List.mem_of_getElem? (i := 873) (by decide +kernel)⟩
theorem lw_p35 : lw_okq (⟨"KnockPipesModel", "here", "()I"⟩, 26) := ⟨⟨by decide +kernel, by decide +kernel⟩, List.mem_of_getElem? (i := 771) (by decide +kernel), List.mem_of_getElem? (i := 876) (by decide +kernel), List.mem_of_getElem? (i := 877) (by decide +kernel)⟩
theorem lw_p36 : lw_okq (⟨"KnockPipesModel", "much", "(ILjava/lang/String;)V"⟩, 26) := ⟨⟨by decide +kernel, by decide +kernel⟩, List.mem_of_getElem? (i := 771) (by decide +kernel), List.mem_of_getElem? (i := 881) (by decide +kernel), List.mem_of_getElem? (i := 882) (by decide +kernel)⟩
theorem lw_p37 : lw_okq (⟨"KnockPipesModel", "spells", "(Ljava/lang/String;)V"⟩, 26) := ⟨⟨by decide +kernel, by decide +kernel⟩, List.mem_of_getElem? (i := 771) (by decide +kernel), List.mem_of_getElem? (i := 885) (by decide +kernel), List.mem_of_getElem? (i := 886) (by decide +kernel)⟩
theorem lw_p38 : lw_okq (⟨"KnockPipesModel", "must", "(I)V"⟩, 26) := ⟨⟨by decide +kernel, by decide +kernel⟩, List.mem_of_getElem? (i := 771) (by decide +kernel), List.mem_of_getElem? (i := 891) (by decide +kernel), List.mem_of_getElem? (i := 892) (by decide +kernel)⟩
theorem lw_p39 : lw_okq (⟨"KnockPipesModel", "figures", "()I"⟩, 26) := ⟨⟨by decide +kernel, by decide +kernel⟩, List.mem_of_getElem? (i := 771) (by decide +kernel), List.mem_of_getElem? (i := 895) (by decide +kernel), List.mem_of_getElem? (i := 896) (by decide +kernel)⟩
theorem lw_p40 : lw_okq (⟨"KnockPipesModel", "some", "()V"⟩, 26) := ⟨⟨by decide +kernel, by decide +kernel⟩, List.mem_of_getElem? (i := 771) (by decide +kernel), List.mem_of_getElem? (i := 899) (by decide +kernel), List.mem_of_getElem? (i := 900) (by decide +kernel)⟩
theorem lw_p41 : lw_okq (⟨"KnockPipesModel", "every", "()V"⟩, 26) := ⟨⟨by decide +kernel, by decide +kernel⟩, List.mem_of_getElem? (i := 771) (by decide +kernel), List.mem_of_getElem? (i := 903) (by decide +kernel), List.mem_of_getElem? (i := 904) (by decide +kernel)⟩
theorem lw_p42 : lw_okq (⟨"KnockPipesModel", "factor", "()V"⟩, 26) := ⟨⟨by decide +kernel, by decide +kernel⟩, List.mem_of_getElem? (i := 771) (by decide +kernel), List.mem_of_getElem? (i := 907) (by decide +kernel), List.mem_of_getElem? (i := 908) (by decide +kernel)⟩
theorem lw_p43 : lw_okq (⟨"KnockPipesModel", "emits", "(I)V"⟩, 26) := ⟨⟨by decide +kernel, by decide +kernel⟩, List.mem_of_getElem? (i := 771) (by decide +kernel), List.mem_of_getElem? (i := 911) (by decide +kernel), List.mem_of_getElem? (i := 912) (by decide +kernel)⟩
theorem lw_p44 : lw_okq (⟨"KnockPipesModel", "among", "(Ljava/lang/String;)I"⟩, 26) := ⟨⟨by decide +kernel, by decide +kernel⟩, List.mem_of_getElem? (i := 771) (by decide +kernel), List.mem_of_getElem? (i := 916) (by decide +kernel), List.mem_of_getElem? (i := 917) (by decide +kernel)⟩
theorem lw_p45 : lw_okq (⟨"KnockPipesModel", "clauseOfH", "()V"⟩, 26) := ⟨⟨by decide +kernel, by decide +kernel⟩, List.mem_of_getElem? (i := 771) (by decide +kernel), List.mem_of_getElem? (i := 921) (by decide +kernel), List.mem_of_getElem? (i := 922) (by decide +kernel)⟩
theorem lw_p46 : lw_okq (⟨"KnockPipesModel", "tellsHere", "(ILjava/lang/String;)V"⟩, 26) := ⟨⟨by decide +kernel, by decide +kernel⟩, List.mem_of_getElem? (i := 771) (by decide +kernel), List.mem_of_getElem? (i := 927) (by decide +kernel), List.mem_of_getElem? (i := 928) (by decide +kernel)⟩
theorem lw_p47 : lw_okq (⟨"KnockPipesModel", "tellsOf", "(II)I"⟩, 26) := ⟨⟨by decide +kernel, by decide +kernel⟩, List.mem_of_getElem? (i := 771) (by decide +kernel), List.mem_of_getElem? (i := 939) (by decide +kernel), List.mem_of_getElem? (i := 940) (by decide +kernel)⟩
def lw_privs_3 : List (MethodName × Nat) := [(⟨"KnockPipes$Acts", "send", "(IIII)I"⟩, 5), (⟨"KnockPipes$Acts", "run", "(IIII)I"⟩, 5), (⟨"KnockPipesModel", "clauseHere", "()V"⟩, 26), (⟨"KnockPipesModel", "here", "()I"⟩, 26), (⟨"KnockPipesModel", "much", "(ILjava/lang/String;)V"⟩, 26), (⟨"KnockPipesModel", "spells", "(Ljava/lang/String;)V"⟩, 26), (⟨"KnockPipesModel", "must", "(I)V"⟩, 26), (⟨"KnockPipesModel", "figures", "()I"⟩, 26), (⟨"KnockPipesModel", "some", "()V"⟩, 26), (⟨"KnockPipesModel", "every", "()V"⟩, 26), (⟨"KnockPipesModel", "factor", "()V"⟩, 26), (⟨"KnockPipesModel", "emits", "(I)V"⟩, 26), (⟨"KnockPipesModel", "among", "(Ljava/lang/String;)I"⟩, 26), (⟨"KnockPipesModel", "clauseOfH", "()V"⟩, 26), (⟨"KnockPipesModel", "tellsHere", "(ILjava/lang/String;)V"⟩, 26), (⟨"KnockPipesModel", "tellsOf", "(II)I"⟩, 26)]
theorem lw_r3 : ∀ q ∈ lw_privs_3, lw_okq q := List.forall_mem_cons.mpr ⟨lw_p32, List.forall_mem_cons.mpr ⟨lw_p33, List.forall_mem_cons.mpr ⟨lw_p34, List.forall_mem_cons.mpr ⟨lw_p35, List.forall_mem_cons.mpr ⟨lw_p36, List.forall_mem_cons.mpr ⟨lw_p37, List.forall_mem_cons.mpr ⟨lw_p38, List.forall_mem_cons.mpr ⟨lw_p39, List.forall_mem_cons.mpr ⟨lw_p40, List.forall_mem_cons.mpr ⟨lw_p41, List.forall_mem_cons.mpr ⟨lw_p42, List.forall_mem_cons.mpr ⟨lw_p43, List.forall_mem_cons.mpr ⟨lw_p44, List.forall_mem_cons.mpr ⟨lw_p45, List.forall_mem_cons.mpr ⟨lw_p46, List.forall_mem_cons.mpr ⟨lw_p47, fun _ h => absurd h List.not_mem_nil⟩⟩⟩⟩⟩⟩⟩⟩⟩⟩⟩⟩⟩⟩⟩⟩
theorem lw_p48 : lw_okq (⟨"KnockPipesModel", "warms", "()V"⟩, 26) := ⟨⟨by decide +kernel, by decide +kernel⟩, List.mem_of_getElem? (i := 771) (by decide +kernel), List.mem_of_getElem? (i := 950) (by decide +kernel), List.mem_of_getElem? (i := 951) (by decide +kernel)⟩
theorem lw_p49 : lw_okq (⟨"KnockPipesModel", "isOn", "(II)Z"⟩, 26) := ⟨⟨by decide +kernel, by decide +kernel⟩, List.mem_of_getElem? (i := 771) (by decide +kernel), List.mem_of_getElem? (i := 954) (by decide +kernel), List.mem_of_getElem? (i := 955) (by decide +kernel)⟩
theorem lw_p50 : lw_okq (⟨"KnockPipesModel", "isNoise", "(I)Z"⟩, 26) := ⟨⟨by decide +kernel, by decide +kernel⟩, List.mem_of_getElem? (i := 771) (by decide +kernel), List.mem_of_getElem? (i := 970) (by decide +kernel), List.mem_of_getElem? (i := 971) (by decide +kernel)⟩
theorem lw_p51 : lw_okq (⟨"KnockPipesModel", "goes", "()V"⟩, 26) := ⟨⟨by decide +kernel, by decide +kernel⟩, List.mem_of_getElem? (i := 771) (by decide +kernel), List.mem_of_getElem? (i := 982) (by decide +kernel), List.mem_of_getElem? (i := 983) (by decide +kernel)⟩
theorem lw_p52 : lw_okq (⟨"KnockPipesModel", "goesOf", "(I)V"⟩, 26) := ⟨⟨by decide +kernel, by decide +kernel⟩, List.mem_of_getElem? (i := 771) (by decide +kernel), List.mem_of_getElem? (i := 986) (by decide +kernel), List.mem_of_getElem? (i := 987) (by decide +kernel)⟩
theorem lw_p53 : lw_okq (⟨"KnockPipesModel", "ticks", "(I)V"⟩, 26) := ⟨⟨by decide +kernel, by decide +kernel⟩, List.mem_of_getElem? (i := 771) (by decide +kernel), List.mem_of_getElem? (i := 990) (by decide +kernel), List.mem_of_getElem? (i := 991) (by decide +kernel)⟩
theorem lw_p54 : lw_okq (⟨"KnockPipesModel", "lengthOf", "(II)I"⟩, 26) := ⟨⟨by decide +kernel, by decide +kernel⟩, List.mem_of_getElem? (i := 771) (by decide +kernel), List.mem_of_getElem? (i := 994) (by decide +kernel), List.mem_of_getElem? (i := 995) (by decide +kernel)⟩
theorem lw_p55 : lw_okq (⟨"KnockPipesModel", "looksAt", "(II)V"⟩, 26) := ⟨⟨by decide +kernel, by decide +kernel⟩, List.mem_of_getElem? (i := 771) (by decide +kernel), List.mem_of_getElem? (i := 998) (by decide +kernel), List.mem_of_getElem? (i := 999) (by decide +kernel)⟩
theorem lw_p56 : lw_okq (⟨"KnockPipesModel", "strikesBy", "(I)V"⟩, 26) := ⟨⟨by decide +kernel, by decide +kernel⟩, List.mem_of_getElem? (i := 771) (by decide +kernel), List.mem_of_getElem? (i := 1005) (by decide +kernel), List.mem_of_getElem? (i := 1006) (by decide +kernel)⟩
theorem lw_p57 : lw_okq (⟨"KnockPipesModel", "hums", "(IZ)V"⟩, 26) := ⟨⟨by decide +kernel, by decide +kernel⟩, List.mem_of_getElem? (i := 771) (by decide +kernel), List.mem_of_getElem? (i := 1009) (by decide +kernel), List.mem_of_getElem? (i := 1010) (by decide +kernel)⟩
theorem lw_p58 : lw_okq (⟨"KnockPipesModel", "plainly", "(I)V"⟩, 26) := ⟨⟨by decide +kernel, by decide +kernel⟩, List.mem_of_getElem? (i := 771) (by decide +kernel), List.mem_of_getElem? (i := 1013) (by decide +kernel), List.mem_of_getElem? (i := 1014) (by decide +kernel)⟩
theorem lw_p59 : lw_okq (⟨"KnockPipesModel", "isStill", "(I)Z"⟩, 26) := ⟨⟨by decide +kernel, by decide +kernel⟩, List.mem_of_getElem? (i := 771) (by decide +kernel), List.mem_of_getElem? (i := 1017) (by decide +kernel), List.mem_of_getElem? (i := 1018) (by decide +kernel)⟩
theorem lw_p60 : lw_okq (⟨"KnockPipesModel", "loudOf", "(III)I"⟩, 26) := ⟨⟨by decide +kernel, by decide +kernel⟩, List.mem_of_getElem? (i := 771) (by decide +kernel), List.mem_of_getElem? (i := 1025) (by decide +kernel), List.mem_of_getElem? (i := 1026) (by decide +kernel)⟩
theorem lw_p61 : lw_okq (⟨"KnockPipesModel", "isStruck", "(I)Z"⟩, 26) := ⟨⟨by decide +kernel, by decide +kernel⟩, List.mem_of_getElem? (i := 771) (by decide +kernel), List.mem_of_getElem? (i := 1029) (by decide +kernel), List.mem_of_getElem? (i := 1030) (by decide +kernel)⟩
theorem lw_p62 : lw_okq (⟨"KnockPipesModel", "moving", "()I"⟩, 26) := ⟨⟨by decide +kernel, by decide +kernel⟩, List.mem_of_getElem? (i := 771) (by decide +kernel), List.mem_of_getElem? (i := 1037) (by decide +kernel), List.mem_of_getElem? (i := 1038) (by decide +kernel)⟩
theorem lw_p63 : lw_okq (⟨"KnockPipesModel", "heardAll", "(II)I"⟩, 26) := ⟨⟨by decide +kernel, by decide +kernel⟩, List.mem_of_getElem? (i := 771) (by decide +kernel), List.mem_of_getElem? (i := 1041) (by decide +kernel), List.mem_of_getElem? (i := 1042) (by decide +kernel)⟩
def lw_privs_4 : List (MethodName × Nat) := [(⟨"KnockPipesModel", "warms", "()V"⟩, 26), (⟨"KnockPipesModel", "isOn", "(II)Z"⟩, 26), (⟨"KnockPipesModel", "isNoise", "(I)Z"⟩, 26), (⟨"KnockPipesModel", "goes", "()V"⟩, 26), (⟨"KnockPipesModel", "goesOf", "(I)V"⟩, 26), (⟨"KnockPipesModel", "ticks", "(I)V"⟩, 26), (⟨"KnockPipesModel", "lengthOf", "(II)I"⟩, 26), (⟨"KnockPipesModel", "looksAt", "(II)V"⟩, 26), (⟨"KnockPipesModel", "strikesBy", "(I)V"⟩, 26), (⟨"KnockPipesModel", "hums", "(IZ)V"⟩, 26), (⟨"KnockPipesModel", "plainly", "(I)V"⟩, 26), (⟨"KnockPipesModel", "isStill", "(I)Z"⟩, 26), (⟨"KnockPipesModel", "loudOf", "(III)I"⟩, 26), (⟨"KnockPipesModel", "isStruck", "(I)Z"⟩, 26), (⟨"KnockPipesModel", "moving", "()I"⟩, 26), (⟨"KnockPipesModel", "heardAll", "(II)I"⟩, 26)]
theorem lw_r4 : ∀ q ∈ lw_privs_4, lw_okq q := List.forall_mem_cons.mpr ⟨lw_p48, List.forall_mem_cons.mpr ⟨lw_p49, List.forall_mem_cons.mpr ⟨lw_p50, List.forall_mem_cons.mpr ⟨lw_p51, List.forall_mem_cons.mpr ⟨lw_p52, List.forall_mem_cons.mpr ⟨lw_p53, List.forall_mem_cons.mpr ⟨lw_p54, List.forall_mem_cons.mpr ⟨lw_p55, List.forall_mem_cons.mpr ⟨lw_p56, List.forall_mem_cons.mpr ⟨lw_p57, List.forall_mem_cons.mpr ⟨lw_p58, List.forall_mem_cons.mpr ⟨lw_p59, List.forall_mem_cons.mpr ⟨lw_p60, List.forall_mem_cons.mpr ⟨lw_p61, List.forall_mem_cons.mpr ⟨lw_p62, List.forall_mem_cons.mpr ⟨lw_p63, fun _ h => absurd h List.not_mem_nil⟩⟩⟩⟩⟩⟩⟩⟩⟩⟩⟩⟩⟩⟩⟩⟩
theorem lw_p64 : lw_okq (⟨"KnockPipesModel", "heardOf", "(III)I"⟩, 26) := ⟨⟨by decide +kernel, by decide +kernel⟩, List.mem_of_getElem? (i := 771) (by decide +kernel), List.mem_of_getElem? (i := 1045) (by decide +kernel), List.mem_of_getElem? (i := 1046) (by decide +kernel)⟩
theorem lw_p65 : lw_okq (⟨"KnockPipesModel", "fitsOf", "(I)I"⟩, 26) := ⟨⟨by decide +kernel, by decide +kernel⟩, List.mem_of_getElem? (i := 771) (by decide +kernel), List.mem_of_getElem? (i := 1065) (by decide +kernel), List.mem_of_getElem? (i := 1066) (by decide +kernel)⟩
theorem lw_p66 : lw_okq (⟨"KnockPipesModel", "mostFitting", "()I"⟩, 26) := ⟨⟨by decide +kernel, by decide +kernel⟩, List.mem_of_getElem? (i := 771) (by decide +kernel), List.mem_of_getElem? (i := 1083) (by decide +kernel), List.mem_of_getElem? (i := 1084) (by decide +kernel)⟩
theorem lw_p67 : lw_okq (⟨"KnockPipesModel", "allFitting", "()I"⟩, 26) := ⟨⟨by decide +kernel, by decide +kernel⟩, List.mem_of_getElem? (i := 771) (by decide +kernel), List.mem_of_getElem? (i := 1087) (by decide +kernel), List.mem_of_getElem? (i := 1088) (by decide +kernel)⟩
theorem lw_p68 : lw_okq (⟨"KnockPipesModel", "worst", "()I"⟩, 26) := ⟨⟨by decide +kernel, by decide +kernel⟩, List.mem_of_getElem? (i := 771) (by decide +kernel), List.mem_of_getElem? (i := 1091) (by decide +kernel), List.mem_of_getElem? (i := 1092) (by decide +kernel)⟩
theorem lw_p69 : lw_okq (⟨"KnockPipesModel", "harmOf", "(I)I"⟩, 26) := ⟨⟨by decide +kernel, by decide +kernel⟩, List.mem_of_getElem? (i := 771) (by decide +kernel), List.mem_of_getElem? (i := 1095) (by decide +kernel), List.mem_of_getElem? (i := 1096) (by decide +kernel)⟩
theorem lw_p70 : lw_okq (⟨"KnockPipesModel", "growsActs", "(I)I"⟩, 26) := ⟨⟨by decide +kernel, by decide +kernel⟩, List.mem_of_getElem? (i := 771) (by decide +kernel), List.mem_of_getElem? (i := 1136) (by decide +kernel), List.mem_of_getElem? (i := 1137) (by decide +kernel)⟩
theorem lw_p71 : lw_okq (⟨"KnockPipesModel", "runs", "(I)V"⟩, 26) := ⟨⟨by decide +kernel, by decide +kernel⟩, List.mem_of_getElem? (i := 771) (by decide +kernel), List.mem_of_getElem? (i := 1143) (by decide +kernel), List.mem_of_getElem? (i := 1144) (by decide +kernel)⟩
theorem lw_p72 : lw_okq (⟨"KnockPipesModel", "plainGrows", "(I)I"⟩, 26) := ⟨⟨by decide +kernel, by decide +kernel⟩, List.mem_of_getElem? (i := 771) (by decide +kernel), List.mem_of_getElem? (i := 1147) (by decide +kernel), List.mem_of_getElem? (i := 1148) (by decide +kernel)⟩
theorem lw_p73 : lw_okq (⟨"KnockPipesModel", "strikesActs", "(I)I"⟩, 26) := ⟨⟨by decide +kernel, by decide +kernel⟩, List.mem_of_getElem? (i := 771) (by decide +kernel), List.mem_of_getElem? (i := 1151) (by decide +kernel), List.mem_of_getElem? (i := 1152) (by decide +kernel)⟩
theorem lw_p74 : lw_okq (⟨"KnockPipesModel", "plainStrikes", "(I)I"⟩, 26) := ⟨⟨by decide +kernel, by decide +kernel⟩, List.mem_of_getElem? (i := 771) (by decide +kernel), List.mem_of_getElem? (i := 1155) (by decide +kernel), List.mem_of_getElem? (i := 1156) (by decide +kernel)⟩
theorem lw_p75 : lw_okq (⟨"KnockPipesModel", "tellsActs", "(I)I"⟩, 26) := ⟨⟨by decide +kernel, by decide +kernel⟩, List.mem_of_getElem? (i := 771) (by decide +kernel), List.mem_of_getElem? (i := 1159) (by decide +kernel), List.mem_of_getElem? (i := 1160) (by decide +kernel)⟩
theorem lw_p76 : lw_okq (⟨"KnockPipesModel", "plainTells", "(I)I"⟩, 26) := ⟨⟨by decide +kernel, by decide +kernel⟩, List.mem_of_getElem? (i := 771) (by decide +kernel), List.mem_of_getElem? (i := 1163) (by decide +kernel), List.mem_of_getElem? (i := 1164) (by decide +kernel)⟩
def lw_privs_5 : List (MethodName × Nat) := [(⟨"KnockPipesModel", "heardOf", "(III)I"⟩, 26), (⟨"KnockPipesModel", "fitsOf", "(I)I"⟩, 26), (⟨"KnockPipesModel", "mostFitting", "()I"⟩, 26), (⟨"KnockPipesModel", "allFitting", "()I"⟩, 26), (⟨"KnockPipesModel", "worst", "()I"⟩, 26), (⟨"KnockPipesModel", "harmOf", "(I)I"⟩, 26), (⟨"KnockPipesModel", "growsActs", "(I)I"⟩, 26), (⟨"KnockPipesModel", "runs", "(I)V"⟩, 26), (⟨"KnockPipesModel", "plainGrows", "(I)I"⟩, 26), (⟨"KnockPipesModel", "strikesActs", "(I)I"⟩, 26), (⟨"KnockPipesModel", "plainStrikes", "(I)I"⟩, 26), (⟨"KnockPipesModel", "tellsActs", "(I)I"⟩, 26), (⟨"KnockPipesModel", "plainTells", "(I)I"⟩, 26)]
theorem lw_r5 : ∀ q ∈ lw_privs_5, lw_okq q := List.forall_mem_cons.mpr ⟨lw_p64, List.forall_mem_cons.mpr ⟨lw_p65, List.forall_mem_cons.mpr ⟨lw_p66, List.forall_mem_cons.mpr ⟨lw_p67, List.forall_mem_cons.mpr ⟨lw_p68, List.forall_mem_cons.mpr ⟨lw_p69, List.forall_mem_cons.mpr ⟨lw_p70, List.forall_mem_cons.mpr ⟨lw_p71, List.forall_mem_cons.mpr ⟨lw_p72, List.forall_mem_cons.mpr ⟨lw_p73, List.forall_mem_cons.mpr ⟨lw_p74, List.forall_mem_cons.mpr ⟨lw_p75, List.forall_mem_cons.mpr ⟨lw_p76, fun _ h => absurd h List.not_mem_nil⟩⟩⟩⟩⟩⟩⟩⟩⟩⟩⟩⟩⟩
def lw_privs : List (MethodName × Nat) := lw_privs_1 ++ (lw_privs_2 ++ (lw_privs_3 ++ (lw_privs_4 ++ (lw_privs_5))))
def lw_tbl : List Cond := k2_sels lw_privs ++ tables_1
theorem lw_privs_ok : ∀ q ∈ lw_privs, lw_okq q := by
  show ∀ q ∈ lw_privs_1 ++ (lw_privs_2 ++ (lw_privs_3 ++ (lw_privs_4 ++ (lw_privs_5)))), lw_okq q
  exact List.forall_mem_append.mpr ⟨lw_r1, List.forall_mem_append.mpr ⟨lw_r2, List.forall_mem_append.mpr ⟨lw_r3, List.forall_mem_append.mpr ⟨lw_r4, lw_r5⟩⟩⟩⟩
def RX0 : String := "KnockPipes$Acts"
def TX0 : u_T := fun k => match k with
  | 0 => ("KnockPipes$Acts", "trace", "[I", true)
  | 1 => ("KnockPipes$Acts", "ran", "I", false)
  | 2 => ("KnockPipes$Acts", "kind", "I", false)
  | 3 => ("KnockPipes$Acts", "number", "I", false)
  | _ => ("KnockPipes$Acts", "v", "I", false)
def tyX0 : Nat → FieldType := fun k => match k with
  | 0 => .array .int
  | 1 => .int
  | 2 => .int
  | 3 => .int
  | _ => .int
abbrev wsX00 : List Cond := u_ws RX0 TX0 5
theorem nmX0 : ∀ a, a < 5 → ∀ b, b < 5 → a ≠ b → (TX0 a).2.1 ≠ (TX0 b).2.1 := by decide +kernel
theorem tyX0_ok : ∀ k, k < 5 → parseFieldDescriptor (TX0 k).2.2.1 = some (tyX0 k) := by decide +kernel
abbrev cX0_init : ByteArray := prog_2_method_1_code
def yX0_init : MethodName := ⟨RX0, "<init>", "()V"⟩
abbrev cX0_start : ByteArray := prog_2_method_2_code
def yX0_start : MethodName := ⟨RX0, "start", "(LKnockPipes$Noises;III)I"⟩
abbrev cX0_send : ByteArray := prog_2_method_3_code
def yX0_send : MethodName := ⟨RX0, "send", "(IIII)I"⟩
abbrev cX0_run : ByteArray := prog_2_method_4_code
def yX0_run : MethodName := ⟨RX0, "run", "(IIII)I"⟩
def RX1 : String := "KnockPipes$Home"
def TX1 : u_T := fun k => match k with
  | 0 => ("KnockPipes$Home", "day", "[J", true)
  | 1 => ("KnockPipes$Home", "tape", "LKnockPipes$Tape;", true)
  | 2 => ("KnockPipes$Home", "house", "LKnockPipes$House;", true)
  | 3 => ("KnockPipes$Home", "noises", "LKnockPipes$Noises;", true)
  | 4 => ("KnockPipes$Home", "book", "LKnockPipes$Notebook;", true)
  | _ => ("KnockPipes$Home", "houses", "I", false)
def tyX1 : Nat → FieldType := fun k => match k with
  | 0 => .array .long
  | 1 => .object "KnockPipes$Tape"
  | 2 => .object "KnockPipes$House"
  | 3 => .object "KnockPipes$Noises"
  | 4 => .object "KnockPipes$Notebook"
  | _ => .int
abbrev wsX10 : List Cond := u_ws RX1 TX1 6
theorem nmX1 : ∀ a, a < 6 → ∀ b, b < 6 → a ≠ b → (TX1 a).2.1 ≠ (TX1 b).2.1 := by decide +kernel
theorem tyX1_ok : ∀ k, k < 6 → parseFieldDescriptor (TX1 k).2.2.1 = some (tyX1 k) := by decide +kernel
abbrev cX1_init : ByteArray := prog_3_method_1_code
def yX1_init : MethodName := ⟨RX1, "<init>", "()V"⟩
abbrev cX1_copy : ByteArray := prog_3_method_2_code
def yX1_copy : MethodName := ⟨RX1, "copy", "(LKnockPipes$Home;)V"⟩
def RX2 : String := "KnockPipes$House"
def TX2 : u_T := fun k => match k with
  | 0 => ("KnockPipes$House", "numbers", "[I", true)
  | 1 => ("KnockPipes$House", "codes", "[I", true)
  | 2 => ("KnockPipes$House", "grows", "[Z", true)
  | 3 => ("KnockPipes$House", "amount", "[I", true)
  | 4 => ("KnockPipes$House", "end", "[I", true)
  | 5 => ("KnockPipes$House", "clauses", "I", false)
  | _ => ("KnockPipes$House", "size", "I", false)
def tyX2 : Nat → FieldType := fun k => match k with
  | 0 => .array .int
  | 1 => .array .int
  | 2 => .array .boolean
  | 3 => .array .int
  | 4 => .array .int
  | 5 => .int
  | _ => .int
abbrev wsX20 : List Cond := u_ws RX2 TX2 7
theorem nmX2 : ∀ a, a < 7 → ∀ b, b < 7 → a ≠ b → (TX2 a).2.1 ≠ (TX2 b).2.1 := by decide +kernel
theorem tyX2_ok : ∀ k, k < 7 → parseFieldDescriptor (TX2 k).2.2.1 = some (tyX2 k) := by decide +kernel
abbrev cX2_init : ByteArray := prog_4_method_1_code
def yX2_init : MethodName := ⟨RX2, "<init>", "()V"⟩
abbrev cX2_empty : ByteArray := prog_4_method_2_code
def yX2_empty : MethodName := ⟨RX2, "empty", "()V"⟩
abbrev cX2_put : ByteArray := prog_4_method_3_code
def yX2_put : MethodName := ⟨RX2, "put", "(I)V"⟩
abbrev cX2_close : ByteArray := prog_4_method_4_code
def yX2_close : MethodName := ⟨RX2, "close", "(ZI)V"⟩
abbrev cX2_copy : ByteArray := prog_4_method_5_code
def yX2_copy : MethodName := ⟨RX2, "copy", "(LKnockPipes$House;)V"⟩
def RX3 : String := "KnockPipes$Noises"
def TX3 : u_T := fun k => match k with
  | 0 => ("KnockPipes$Noises", "kind", "[I", true)
  | 1 => ("KnockPipes$Noises", "place", "[I", true)
  | 2 => ("KnockPipes$Noises", "v", "[I", true)
  | 3 => ("KnockPipes$Noises", "loudness", "[I", true)
  | 4 => ("KnockPipes$Noises", "still", "I", false)
  | _ => ("KnockPipes$Noises", "count", "I", false)
def tyX3 : Nat → FieldType := fun k => match k with
  | 0 => .array .int
  | 1 => .array .int
  | 2 => .array .int
  | 3 => .array .int
  | 4 => .int
  | _ => .int
abbrev wsX30 : List Cond := u_ws RX3 TX3 6
theorem nmX3 : ∀ a, a < 6 → ∀ b, b < 6 → a ≠ b → (TX3 a).2.1 ≠ (TX3 b).2.1 := by decide +kernel
theorem tyX3_ok : ∀ k, k < 6 → parseFieldDescriptor (TX3 k).2.2.1 = some (tyX3 k) := by decide +kernel
abbrev cX3_init : ByteArray := prog_5_method_1_code
def yX3_init : MethodName := ⟨RX3, "<init>", "()V"⟩
abbrev cX3_has : ByteArray := prog_5_method_2_code
def yX3_has : MethodName := ⟨RX3, "has", "(I)Z"⟩
abbrev cX3_isLoose : ByteArray := prog_5_method_3_code
def yX3_isLoose : MethodName := ⟨RX3, "isLoose", "(I)Z"⟩
abbrev cX3_loose : ByteArray := prog_5_method_4_code
def yX3_loose : MethodName := ⟨RX3, "loose", "()I"⟩
abbrev cX3_add : ByteArray := prog_5_method_5_code
def yX3_add : MethodName := ⟨RX3, "add", "(IIII)I"⟩
abbrev cX3_copy : ByteArray := prog_5_method_6_code
def yX3_copy : MethodName := ⟨RX3, "copy", "(LKnockPipes$Noises;)V"⟩
def RX4 : String := "KnockPipes$Notebook"
def TX4 : u_T := fun k => match k with
  | 0 => ("KnockPipes$Notebook", "place", "[I", true)
  | 1 => ("KnockPipes$Notebook", "minute", "[I", true)
  | 2 => ("KnockPipes$Notebook", "n", "[I", true)
  | _ => ("KnockPipes$Notebook", "count", "I", false)
def tyX4 : Nat → FieldType := fun k => match k with
  | 0 => .array .int
  | 1 => .array .int
  | 2 => .array .int
  | _ => .int
abbrev wsX40 : List Cond := u_ws RX4 TX4 4
theorem nmX4 : ∀ a, a < 4 → ∀ b, b < 4 → a ≠ b → (TX4 a).2.1 ≠ (TX4 b).2.1 := by decide +kernel
theorem tyX4_ok : ∀ k, k < 4 → parseFieldDescriptor (TX4 k).2.2.1 = some (tyX4 k) := by decide +kernel
abbrev cX4_init : ByteArray := prog_6_method_1_code
def yX4_init : MethodName := ⟨RX4, "<init>", "()V"⟩
abbrev cX4_add : ByteArray := prog_6_method_2_code
def yX4_add : MethodName := ⟨RX4, "add", "(III)I"⟩
abbrev cX4_copy : ByteArray := prog_6_method_3_code
def yX4_copy : MethodName := ⟨RX4, "copy", "(LKnockPipes$Notebook;)V"⟩
def RX5 : String := "KnockPipes$Reader"
def TX5 : u_T := fun k => match k with
  | 0 => ("KnockPipes$Reader", "draft", "LKnockPipes$House;", true)
  | 1 => ("KnockPipes$Reader", "tape", "LKnockPipes$Tape;", true)
  | _ => ("KnockPipes$Reader", "at", "I", false)
def tyX5 : Nat → FieldType := fun k => match k with
  | 0 => .object "KnockPipes$House"
  | 1 => .object "KnockPipes$Tape"
  | _ => .int
abbrev wsX50 : List Cond := u_ws RX5 TX5 3
theorem nmX5 : ∀ a, a < 3 → ∀ b, b < 3 → a ≠ b → (TX5 a).2.1 ≠ (TX5 b).2.1 := by decide +kernel
theorem tyX5_ok : ∀ k, k < 3 → parseFieldDescriptor (TX5 k).2.2.1 = some (tyX5 k) := by decide +kernel
abbrev cX5_init : ByteArray := prog_7_method_1_code
def yX5_init : MethodName := ⟨RX5, "<init>", "()V"⟩
abbrev cX5_reads : ByteArray := prog_7_method_2_code
def yX5_reads : MethodName := ⟨RX5, "reads", "(LKnockPipes$Tape;)Z"⟩
abbrev cX5_peek : ByteArray := prog_7_method_3_code
def yX5_peek : MethodName := ⟨RX5, "peek", "()I"⟩
abbrev cX5_eats : ByteArray := prog_7_method_4_code
def yX5_eats : MethodName := ⟨RX5, "eats", "(C)Z"⟩
abbrev cX5_clause : ByteArray := prog_7_method_5_code
def yX5_clause : MethodName := ⟨RX5, "clause", "()Z"⟩
abbrev cX5_word : ByteArray := prog_7_method_6_code
def yX5_word : MethodName := ⟨RX5, "word", "()I"⟩
abbrev cX5_digit : ByteArray := prog_7_method_7_code
def yX5_digit : MethodName := ⟨RX5, "digit", "()I"⟩
abbrev cX5_number : ByteArray := prog_7_method_8_code
def yX5_number : MethodName := ⟨RX5, "number", "()I"⟩
abbrev cX5_either : ByteArray := prog_7_method_9_code
def yX5_either : MethodName := ⟨RX5, "either", "(I)Z"⟩
abbrev cX5_both : ByteArray := prog_7_method_10_code
def yX5_both : MethodName := ⟨RX5, "both", "(I)Z"⟩
abbrev cX5_factor : ByteArray := prog_7_method_11_code
def yX5_factor : MethodName := ⟨RX5, "factor", "(I)Z"⟩
abbrev cX5_test : ByteArray := prog_7_method_12_code
def yX5_test : MethodName := ⟨RX5, "test", "()Z"⟩
abbrev cX5_oneOf : ByteArray := prog_7_method_13_code
def yX5_oneOf : MethodName := ⟨RX5, "oneOf", "(Ljava/lang/String;)I"⟩
def RX6 : String := "KnockPipes$Sounds"
def TX6 : u_T := fun k => match k with
  | 0 => ("KnockPipes$Sounds", "warmth", "[I", true)
  | 1 => ("KnockPipes$Sounds", "growth", "[I", true)
  | 2 => ("KnockPipes$Sounds", "hold", "[I", true)
  | 3 => ("KnockPipes$Sounds", "knocks", "[I", true)
  | 4 => ("KnockPipes$Sounds", "bare", "[J", true)
  | _ => ("KnockPipes$Sounds", "stack", "[J", true)
def tyX6 : Nat → FieldType := fun k => match k with
  | 0 => .array .int
  | 1 => .array .int
  | 2 => .array .int
  | 3 => .array .int
  | 4 => .array .long
  | _ => .array .long
abbrev wsX60 : List Cond := u_ws RX6 TX6 6
theorem nmX6 : ∀ a, a < 6 → ∀ b, b < 6 → a ≠ b → (TX6 a).2.1 ≠ (TX6 b).2.1 := by decide +kernel
theorem tyX6_ok : ∀ k, k < 6 → parseFieldDescriptor (TX6 k).2.2.1 = some (tyX6 k) := by decide +kernel
abbrev cX6_init : ByteArray := prog_8_method_1_code
def yX6_init : MethodName := ⟨RX6, "<init>", "()V"⟩
abbrev cX6_lengthOf : ByteArray := prog_8_method_2_code
def yX6_lengthOf : MethodName := ⟨RX6, "lengthOf", "(II)I"⟩
abbrev cX6_holdOf : ByteArray := prog_8_method_3_code
def yX6_holdOf : MethodName := ⟨RX6, "holdOf", "(II)I"⟩
abbrev cX6_knocksOf : ByteArray := prog_8_method_4_code
def yX6_knocksOf : MethodName := ⟨RX6, "knocksOf", "(II)I"⟩
abbrev cX6_knockingOf : ByteArray := prog_8_method_5_code
def yX6_knockingOf : MethodName := ⟨RX6, "knockingOf", "(I)J"⟩
abbrev cX6_read : ByteArray := prog_8_method_6_code
def yX6_read : MethodName := ⟨RX6, "read", "(LKnockPipes$House;LKnockPipes$Noises;I)V"⟩
abbrev cX6_addTo : ByteArray := prog_8_method_7_code
def yX6_addTo : MethodName := ⟨RX6, "addTo", "([IIJI)V"⟩
abbrev cX6_holds : ByteArray := prog_8_method_8_code
def yX6_holds : MethodName := ⟨RX6, "holds", "(LKnockPipes$House;IILKnockPipes$Noises;I)J"⟩
abbrev cX6_minutesOf : ByteArray := prog_8_method_9_code
def yX6_minutesOf : MethodName := ⟨RX6, "minutesOf", "(ILKnockPipes$Noises;I)J"⟩
abbrev cX6_warm : ByteArray := prog_8_method_10_code
def yX6_warm : MethodName := ⟨RX6, "warm", "(LKnockPipes$House;J)V"⟩
abbrev cX6_knock : ByteArray := prog_8_method_11_code
def yX6_knock : MethodName := ⟨RX6, "knock", "(LKnockPipes$Noises;IJJ)V"⟩
abbrev cX6_mark : ByteArray := prog_8_method_12_code
def yX6_mark : MethodName := ⟨RX6, "mark", "(IJIJ)V"⟩
abbrev cX6_lasting : ByteArray := prog_8_method_13_code
def yX6_lasting : MethodName := ⟨RX6, "lasting", "(JI)J"⟩
abbrev cX6_tick : ByteArray := prog_8_method_14_code
def yX6_tick : MethodName := ⟨RX6, "tick", "(IZ)V"⟩
def RX7 : String := "KnockPipes$Tape"
def TX7 : u_T := fun k => match k with
  | 0 => ("KnockPipes$Tape", "bytes", "[I", true)
  | _ => ("KnockPipes$Tape", "size", "I", false)
def tyX7 : Nat → FieldType := fun k => match k with
  | 0 => .array .int
  | _ => .int
abbrev wsX70 : List Cond := u_ws RX7 TX7 2
theorem nmX7 : ∀ a, a < 2 → ∀ b, b < 2 → a ≠ b → (TX7 a).2.1 ≠ (TX7 b).2.1 := by decide +kernel
theorem tyX7_ok : ∀ k, k < 2 → parseFieldDescriptor (TX7 k).2.2.1 = some (tyX7 k) := by decide +kernel
abbrev cX7_init : ByteArray := prog_9_method_1_code
def yX7_init : MethodName := ⟨RX7, "<init>", "()V"⟩
abbrev cX7_add : ByteArray := prog_9_method_2_code
def yX7_add : MethodName := ⟨RX7, "add", "(I)V"⟩
abbrev cX7_copy : ByteArray := prog_9_method_3_code
def yX7_copy : MethodName := ⟨RX7, "copy", "(LKnockPipes$Tape;)V"⟩
def RX8 : String := "KnockPipes$Test"
def TX8 : u_T := fun k => match k with
  | _ => ("", "", "", false)
def tyX8 : Nat → FieldType := fun k => match k with
  | _ => .int
abbrev wsX80 : List Cond := u_ws RX8 TX8 0
theorem nmX8 : ∀ a, a < 0 → ∀ b, b < 0 → a ≠ b → (TX8 a).2.1 ≠ (TX8 b).2.1 := by decide +kernel
theorem tyX8_ok : ∀ k, k < 0 → parseFieldDescriptor (TX8 k).2.2.1 = some (tyX8 k) := by decide +kernel
abbrev cX8_code : ByteArray := prog_10_method_2_code
def yX8_code : MethodName := ⟨RX8, "code", "(III)I"⟩
abbrev cX8_subject : ByteArray := prog_10_method_3_code
def yX8_subject : MethodName := ⟨RX8, "subject", "(I)I"⟩
abbrev cX8_sign : ByteArray := prog_10_method_4_code
def yX8_sign : MethodName := ⟨RX8, "sign", "(I)I"⟩
abbrev cX8_number : ByteArray := prog_10_method_5_code
def yX8_number : MethodName := ⟨RX8, "number", "(I)I"⟩
abbrev cX8_holds : ByteArray := prog_10_method_6_code
def yX8_holds : MethodName := ⟨RX8, "holds", "(II)Z"⟩
abbrev cX8_minutes : ByteArray := prog_10_method_7_code
def yX8_minutes : MethodName := ⟨RX8, "minutes", "(I)J"⟩
def RX9 : String := "KnockPipes"
def TX9 : u_T := fun k => match k with
  | 0 => ("KnockPipes", "now", "LKnockPipes$Home;", true)
  | 1 => ("KnockPipes", "kept", "LKnockPipes$Home;", true)
  | 2 => ("KnockPipes", "imaged", "Z", false)
  | 3 => ("KnockPipes", "reader", "LKnockPipes$Reader;", true)
  | 4 => ("KnockPipes", "sounds", "LKnockPipes$Sounds;", true)
  | 5 => ("KnockPipes", "acts", "LKnockPipes$Acts;", true)
  | 6 => ("KnockPipes", "settled", "Z", false)
  | _ => ("KnockPipes", "shares", "[I", true)
def tyX9 : Nat → FieldType := fun k => match k with
  | 0 => .object "KnockPipes$Home"
  | 1 => .object "KnockPipes$Home"
  | 2 => .boolean
  | 3 => .object "KnockPipes$Reader"
  | 4 => .object "KnockPipes$Sounds"
  | 5 => .object "KnockPipes$Acts"
  | 6 => .boolean
  | _ => .array .int
abbrev wsX90 : List Cond := u_ws RX9 TX9 8
theorem nmX9 : ∀ a, a < 8 → ∀ b, b < 8 → a ≠ b → (TX9 a).2.1 ≠ (TX9 b).2.1 := by decide +kernel
theorem tyX9_ok : ∀ k, k < 8 → parseFieldDescriptor (TX9 k).2.2.1 = some (tyX9 k) := by decide +kernel
abbrev cX9_init : ByteArray := prog_1_method_1_code
def yX9_init : MethodName := ⟨RX9, "<init>", "()V"⟩
abbrev cX9_day : ByteArray := prog_1_method_2_code
def yX9_day : MethodName := ⟨RX9, "day", "(IJ)I"⟩
abbrev cX9_feed : ByteArray := prog_1_method_3_code
def yX9_feed : MethodName := ⟨RX9, "feed", "(JI)I"⟩
abbrev cX9_house : ByteArray := prog_1_method_4_code
def yX9_house : MethodName := ⟨RX9, "house", "()I"⟩
abbrev cX9_told : ByteArray := prog_1_method_5_code
def yX9_told : MethodName := ⟨RX9, "told", "(I)I"⟩
abbrev cX9_warmth : ByteArray := prog_1_method_6_code
def yX9_warmth : MethodName := ⟨RX9, "warmth", "(I)I"⟩
abbrev cX9_noise : ByteArray := prog_1_method_7_code
def yX9_noise : MethodName := ⟨RX9, "noise", "(IIII)I"⟩
abbrev cX9_of : ByteArray := prog_1_method_8_code
def yX9_of : MethodName := ⟨RX9, "of", "(II)I"⟩
abbrev cX9_still : ByteArray := prog_1_method_9_code
def yX9_still : MethodName := ⟨RX9, "still", "(IZ)I"⟩
abbrev cX9_knocks : ByteArray := prog_1_method_10_code
def yX9_knocks : MethodName := ⟨RX9, "knocks", "(III)I"⟩
abbrev cX9_loud : ByteArray := prog_1_method_11_code
def yX9_loud : MethodName := ⟨RX9, "loud", "(III)I"⟩
abbrev cX9_heard : ByteArray := prog_1_method_12_code
def yX9_heard : MethodName := ⟨RX9, "heard", "(II)I"⟩
abbrev cX9_seems : ByteArray := prog_1_method_13_code
def yX9_seems : MethodName := ⟨RX9, "seems", "(I)I"⟩
abbrev cX9_note : ByteArray := prog_1_method_14_code
def yX9_note : MethodName := ⟨RX9, "note", "(III)I"⟩
abbrev cX9_clear : ByteArray := prog_1_method_15_code
def yX9_clear : MethodName := ⟨RX9, "clear", "()I"⟩
abbrev cX9_fits : ByteArray := prog_1_method_16_code
def yX9_fits : MethodName := ⟨RX9, "fits", "(I)I"⟩
abbrev cX9_odds : ByteArray := prog_1_method_17_code
def yX9_odds : MethodName := ⟨RX9, "odds", "(II)I"⟩
abbrev cX9_which : ByteArray := prog_1_method_18_code
def yX9_which : MethodName := ⟨RX9, "which", "(I)I"⟩
abbrev cX9_next : ByteArray := prog_1_method_19_code
def yX9_next : MethodName := ⟨RX9, "next", "()I"⟩
abbrev cX9_least : ByteArray := prog_1_method_20_code
def yX9_least : MethodName := ⟨RX9, "least", "(II)I"⟩
abbrev cX9_eased : ByteArray := prog_1_method_21_code
def yX9_eased : MethodName := ⟨RX9, "eased", "(II)I"⟩
abbrev cX9_parted : ByteArray := prog_1_method_22_code
def yX9_parted : MethodName := ⟨RX9, "parted", "(II)J"⟩
abbrev cX9_quiet : ByteArray := prog_1_method_23_code
def yX9_quiet : MethodName := ⟨RX9, "quiet", "(I)I"⟩
abbrev cX9_moved : ByteArray := prog_1_method_24_code
def yX9_moved : MethodName := ⟨RX9, "moved", "(II)I"⟩
abbrev cX9_older : ByteArray := prog_1_method_25_code
def yX9_older : MethodName := ⟨RX9, "older", "()I"⟩
abbrev cX9_harm : ByteArray := prog_1_method_26_code
def yX9_harm : MethodName := ⟨RX9, "harm", "(I)I"⟩
abbrev cX9_act : ByteArray := prog_1_method_27_code
def yX9_act : MethodName := ⟨RX9, "act", "(III)I"⟩
abbrev cX9_trace : ByteArray := prog_1_method_28_code
def yX9_trace : MethodName := ⟨RX9, "trace", "(I)I"⟩
abbrev cX9_as : ByteArray := prog_1_method_29_code
def yX9_as : MethodName := ⟨RX9, "as", "(II)I"⟩
abbrev cX9_image : ByteArray := prog_1_method_30_code
def yX9_image : MethodName := ⟨RX9, "image", "()I"⟩
abbrev cX9_undo : ByteArray := prog_1_method_31_code
def yX9_undo : MethodName := ⟨RX9, "undo", "()I"⟩
abbrev cX9_count : ByteArray := prog_1_method_32_code
def yX9_count : MethodName := ⟨RX9, "count", "(I)I"⟩
abbrev cX9_isMinute : ByteArray := prog_1_method_33_code
def yX9_isMinute : MethodName := ⟨RX9, "isMinute", "(I)Z"⟩
abbrev cX9_isPlace : ByteArray := prog_1_method_34_code
def yX9_isPlace : MethodName := ⟨RX9, "isPlace", "(I)Z"⟩
abbrev cX9_isKind : ByteArray := prog_1_method_35_code
def yX9_isKind : MethodName := ⟨RX9, "isKind", "(I)Z"⟩
abbrev cX9_isUnder : ByteArray := prog_1_method_36_code
def yX9_isUnder : MethodName := ⟨RX9, "isUnder", "(II)Z"⟩
abbrev cX9_greatestShared : ByteArray := prog_1_method_37_code
def yX9_greatestShared : MethodName := ⟨RX9, "greatestShared", "(II)I"⟩
abbrev cX9_settle : ByteArray := prog_1_method_38_code
def yX9_settle : MethodName := ⟨RX9, "settle", "()V"⟩
abbrev cX9_ring : ByteArray := prog_1_method_39_code
def yX9_ring : MethodName := ⟨RX9, "ring", "(JJJ)V"⟩
abbrev cX9_loudOf : ByteArray := prog_1_method_40_code
def yX9_loudOf : MethodName := ⟨RX9, "loudOf", "(IIII)I"⟩
abbrev cX9_heardOf : ByteArray := prog_1_method_41_code
def yX9_heardOf : MethodName := ⟨RX9, "heardOf", "(IIII)I"⟩
abbrev cX9_heardAlone : ByteArray := prog_1_method_42_code
def yX9_heardAlone : MethodName := ⟨RX9, "heardAlone", "(III)I"⟩
abbrev cX9_heardInDayOf : ByteArray := prog_1_method_43_code
def yX9_heardInDayOf : MethodName := ⟨RX9, "heardInDayOf", "(II)I"⟩
abbrev cX9_heardAt : ByteArray := prog_1_method_44_code
def yX9_heardAt : MethodName := ⟨RX9, "heardAt", "(II)I"⟩
abbrev cX9_heardInDay : ByteArray := prog_1_method_45_code
def yX9_heardInDay : MethodName := ⟨RX9, "heardInDay", "(I)I"⟩
abbrev cX9_loudOfAll : ByteArray := prog_1_method_46_code
def yX9_loudOfAll : MethodName := ⟨RX9, "loudOfAll", "(II)I"⟩
abbrev cX9_fittingRows : ByteArray := prog_1_method_47_code
def yX9_fittingRows : MethodName := ⟨RX9, "fittingRows", "(I)I"⟩
abbrev cX9_mostFitting : ByteArray := prog_1_method_48_code
def yX9_mostFitting : MethodName := ⟨RX9, "mostFitting", "()I"⟩
abbrev cX9_allFitting : ByteArray := prog_1_method_49_code
def yX9_allFitting : MethodName := ⟨RX9, "allFitting", "()I"⟩
abbrev cX9_fitsAllRows : ByteArray := prog_1_method_50_code
def yX9_fitsAllRows : MethodName := ⟨RX9, "fitsAllRows", "(I)Z"⟩
abbrev cX9_shareOf : ByteArray := prog_1_method_51_code
def yX9_shareOf : MethodName := ⟨RX9, "shareOf", "(II)I"⟩
abbrev cX9_worst : ByteArray := prog_1_method_52_code
def yX9_worst : MethodName := ⟨RX9, "worst", "()I"⟩
abbrev cX9_harmOf : ByteArray := prog_1_method_53_code
def yX9_harmOf : MethodName := ⟨RX9, "harmOf", "(I)I"⟩
abbrev cX9_mostAlike : ByteArray := prog_1_method_54_code
def yX9_mostAlike : MethodName := ⟨RX9, "mostAlike", "(II)I"⟩
abbrev cX9_rowsHeard : ByteArray := prog_1_method_55_code
def yX9_rowsHeard : MethodName := ⟨RX9, "rowsHeard", "()I"⟩
def RX10 : String := "KnockPipesModel"
def TX10 : u_T := fun k => match k with
  | 0 => ("KnockPipesModel", "thrown", "I", false)
  | 1 => ("KnockPipesModel", "s", "[I", true)
  | 2 => ("KnockPipesModel", "image", "[I", true)
  | 3 => ("KnockPipesModel", "hasImage", "Z", false)
  | 4 => ("KnockPipesModel", "act", "I", false)
  | 5 => ("KnockPipesModel", "spot", "I", false)
  | 6 => ("KnockPipesModel", "end", "I", false)
  | 7 => ("KnockPipesModel", "isWrong", "Z", false)
  | 8 => ("KnockPipesModel", "open", "I", false)
  | 9 => ("KnockPipesModel", "by", "[I", true)
  | 10 => ("KnockPipesModel", "truths", "[Z", true)
  | 11 => ("KnockPipesModel", "grows", "I", false)
  | 12 => ("KnockPipesModel", "holds", "I", false)
  | 13 => ("KnockPipesModel", "anyHolds", "Z", false)
  | 14 => ("KnockPipesModel", "warmths", "[I", true)
  | 15 => ("KnockPipesModel", "beats", "[I", true)
  | 16 => ("KnockPipesModel", "isQuietDay", "Z", false)
  | 17 => ("KnockPipesModel", "late", "I", false)
  | 18 => ("KnockPipesModel", "easing", "I", false)
  | 19 => ("KnockPipesModel", "heardThere", "[I", true)
  | 20 => ("KnockPipesModel", "heardIn", "[I", true)
  | 21 => ("KnockPipesModel", "bodies", "[I", true)
  | 22 => ("KnockPipesModel", "ran", "I", false)
  | 23 => ("KnockPipesModel", "kind", "I", false)
  | 24 => ("KnockPipesModel", "number", "I", false)
  | _ => ("KnockPipesModel", "tellsV", "I", false)
def tyX10 : Nat → FieldType := fun k => match k with
  | 0 => .int
  | 1 => .array .int
  | 2 => .array .int
  | 3 => .boolean
  | 4 => .int
  | 5 => .int
  | 6 => .int
  | 7 => .boolean
  | 8 => .int
  | 9 => .array .int
  | 10 => .array .boolean
  | 11 => .int
  | 12 => .int
  | 13 => .boolean
  | 14 => .array .int
  | 15 => .array .int
  | 16 => .boolean
  | 17 => .int
  | 18 => .int
  | 19 => .array .int
  | 20 => .array .int
  | 21 => .array .int
  | 22 => .int
  | 23 => .int
  | 24 => .int
  | _ => .int
abbrev wsX100 : List Cond := u_ws RX10 TX10 26
theorem nmX10 : ∀ a, a < 26 → ∀ b, b < 26 → a ≠ b → (TX10 a).2.1 ≠ (TX10 b).2.1 := by decide +kernel
theorem tyX10_ok : ∀ k, k < 26 → parseFieldDescriptor (TX10 k).2.2.1 = some (tyX10 k) := by decide +kernel
abbrev cX10_init : ByteArray := prog_12_method_1_code
def yX10_init : MethodName := ⟨RX10, "<init>", "()V"⟩
abbrev cX10_in : ByteArray := prog_12_method_3_code
def yX10_in : MethodName := ⟨RX10, "in", "(III)Z"⟩
abbrev cX10_size : ByteArray := prog_12_method_4_code
def yX10_size : MethodName := ⟨RX10, "size", "(I)I"⟩
abbrev cX10_isNoise : ByteArray := prog_12_method_5_code
def yX10_isNoise : MethodName := ⟨RX10, "isNoise", "(I)Z"⟩
abbrev cX10_isPlace : ByteArray := prog_12_method_6_code
def yX10_isPlace : MethodName := ⟨RX10, "isPlace", "(I)Z"⟩
abbrev cX10_isMinute : ByteArray := prog_12_method_7_code
def yX10_isMinute : MethodName := ⟨RX10, "isMinute", "(I)Z"⟩
abbrev cX10_day : ByteArray := prog_12_method_8_code
def yX10_day : MethodName := ⟨RX10, "day", "(IJ)I"⟩
abbrev cX10_feed : ByteArray := prog_12_method_9_code
def yX10_feed : MethodName := ⟨RX10, "feed", "(JI)I"⟩
abbrev cX10_here : ByteArray := prog_12_method_10_code
def yX10_here : MethodName := ⟨RX10, "here", "()I"⟩
abbrev cX10_must : ByteArray := prog_12_method_11_code
def yX10_must : MethodName := ⟨RX10, "must", "(I)V"⟩
abbrev cX10_spells : ByteArray := prog_12_method_12_code
def yX10_spells : MethodName := ⟨RX10, "spells", "(Ljava/lang/String;)V"⟩
abbrev cX10_figures : ByteArray := prog_12_method_13_code
def yX10_figures : MethodName := ⟨RX10, "figures", "()I"⟩
abbrev cX10_among : ByteArray := prog_12_method_14_code
def yX10_among : MethodName := ⟨RX10, "among", "(Ljava/lang/String;)I"⟩
abbrev cX10_emits : ByteArray := prog_12_method_15_code
def yX10_emits : MethodName := ⟨RX10, "emits", "(I)V"⟩
abbrev cX10_factor : ByteArray := prog_12_method_16_code
def yX10_factor : MethodName := ⟨RX10, "factor", "()V"⟩
abbrev cX10_every : ByteArray := prog_12_method_17_code
def yX10_every : MethodName := ⟨RX10, "every", "()V"⟩
abbrev cX10_some : ByteArray := prog_12_method_18_code
def yX10_some : MethodName := ⟨RX10, "some", "()V"⟩
abbrev cX10_much : ByteArray := prog_12_method_19_code
def yX10_much : MethodName := ⟨RX10, "much", "(ILjava/lang/String;)V"⟩
abbrev cX10_tellsHere : ByteArray := prog_12_method_20_code
def yX10_tellsHere : MethodName := ⟨RX10, "tellsHere", "(ILjava/lang/String;)V"⟩
abbrev cX10_clauseOfH : ByteArray := prog_12_method_21_code
def yX10_clauseOfH : MethodName := ⟨RX10, "clauseOfH", "()V"⟩
abbrev cX10_clauseHere : ByteArray := prog_12_method_22_code
def yX10_clauseHere : MethodName := ⟨RX10, "clauseHere", "()V"⟩
abbrev cX10_house : ByteArray := prog_12_method_23_code
def yX10_house : MethodName := ⟨RX10, "house", "()I"⟩
abbrev cX10_tellsOf : ByteArray := prog_12_method_24_code
def yX10_tellsOf : MethodName := ⟨RX10, "tellsOf", "(II)I"⟩
abbrev cX10_told : ByteArray := prog_12_method_25_code
def yX10_told : MethodName := ⟨RX10, "told", "(I)I"⟩
abbrev cX10_looksAt : ByteArray := prog_12_method_26_code
def yX10_looksAt : MethodName := ⟨RX10, "looksAt", "(II)V"⟩
abbrev cX10_isOn : ByteArray := prog_12_method_27_code
def yX10_isOn : MethodName := ⟨RX10, "isOn", "(II)Z"⟩
abbrev cX10_warms : ByteArray := prog_12_method_28_code
def yX10_warms : MethodName := ⟨RX10, "warms", "()V"⟩
abbrev cX10_lengthOf : ByteArray := prog_12_method_29_code
def yX10_lengthOf : MethodName := ⟨RX10, "lengthOf", "(II)I"⟩
abbrev cX10_ticks : ByteArray := prog_12_method_30_code
def yX10_ticks : MethodName := ⟨RX10, "ticks", "(I)V"⟩
abbrev cX10_strikesBy : ByteArray := prog_12_method_31_code
def yX10_strikesBy : MethodName := ⟨RX10, "strikesBy", "(I)V"⟩
abbrev cX10_hums : ByteArray := prog_12_method_32_code
def yX10_hums : MethodName := ⟨RX10, "hums", "(IZ)V"⟩
abbrev cX10_plainly : ByteArray := prog_12_method_33_code
def yX10_plainly : MethodName := ⟨RX10, "plainly", "(I)V"⟩
abbrev cX10_goesOf : ByteArray := prog_12_method_34_code
def yX10_goesOf : MethodName := ⟨RX10, "goesOf", "(I)V"⟩
abbrev cX10_goes : ByteArray := prog_12_method_35_code
def yX10_goes : MethodName := ⟨RX10, "goes", "()V"⟩
abbrev cX10_warmth : ByteArray := prog_12_method_36_code
def yX10_warmth : MethodName := ⟨RX10, "warmth", "(I)I"⟩
abbrev cX10_noise : ByteArray := prog_12_method_37_code
def yX10_noise : MethodName := ⟨RX10, "noise", "(IIII)I"⟩
abbrev cX10_of : ByteArray := prog_12_method_38_code
def yX10_of : MethodName := ⟨RX10, "of", "(II)I"⟩
abbrev cX10_still : ByteArray := prog_12_method_39_code
def yX10_still : MethodName := ⟨RX10, "still", "(IZ)I"⟩
abbrev cX10_isStill : ByteArray := prog_12_method_40_code
def yX10_isStill : MethodName := ⟨RX10, "isStill", "(I)Z"⟩
abbrev cX10_knocks : ByteArray := prog_12_method_41_code
def yX10_knocks : MethodName := ⟨RX10, "knocks", "(III)I"⟩
abbrev cX10_isStruck : ByteArray := prog_12_method_42_code
def yX10_isStruck : MethodName := ⟨RX10, "isStruck", "(I)Z"⟩
abbrev cX10_loudOf : ByteArray := prog_12_method_43_code
def yX10_loudOf : MethodName := ⟨RX10, "loudOf", "(III)I"⟩
abbrev cX10_loud : ByteArray := prog_12_method_44_code
def yX10_loud : MethodName := ⟨RX10, "loud", "(III)I"⟩
abbrev cX10_moving : ByteArray := prog_12_method_45_code
def yX10_moving : MethodName := ⟨RX10, "moving", "()I"⟩
abbrev cX10_heardOf : ByteArray := prog_12_method_46_code
def yX10_heardOf : MethodName := ⟨RX10, "heardOf", "(III)I"⟩
abbrev cX10_heardAll : ByteArray := prog_12_method_47_code
def yX10_heardAll : MethodName := ⟨RX10, "heardAll", "(II)I"⟩
abbrev cX10_heard : ByteArray := prog_12_method_48_code
def yX10_heard : MethodName := ⟨RX10, "heard", "(II)I"⟩
abbrev cX10_seems : ByteArray := prog_12_method_49_code
def yX10_seems : MethodName := ⟨RX10, "seems", "(I)I"⟩
abbrev cX10_note : ByteArray := prog_12_method_50_code
def yX10_note : MethodName := ⟨RX10, "note", "(III)I"⟩
abbrev cX10_clear : ByteArray := prog_12_method_51_code
def yX10_clear : MethodName := ⟨RX10, "clear", "()I"⟩
abbrev cX10_fitsOf : ByteArray := prog_12_method_52_code
def yX10_fitsOf : MethodName := ⟨RX10, "fitsOf", "(I)I"⟩
abbrev cX10_count1 : ByteArray := prog_12_method_53_code
def yX10_count1 : MethodName := ⟨RX10, "count1", "(I)I"⟩
abbrev cX10_fits : ByteArray := prog_12_method_54_code
def yX10_fits : MethodName := ⟨RX10, "fits", "(I)I"⟩
abbrev cX10_divisor : ByteArray := prog_12_method_55_code
def yX10_divisor : MethodName := ⟨RX10, "divisor", "(II)I"⟩
abbrev cX10_odds : ByteArray := prog_12_method_56_code
def yX10_odds : MethodName := ⟨RX10, "odds", "(II)I"⟩
abbrev cX10_mostFitting : ByteArray := prog_12_method_57_code
def yX10_mostFitting : MethodName := ⟨RX10, "mostFitting", "()I"⟩
abbrev cX10_allFitting : ByteArray := prog_12_method_58_code
def yX10_allFitting : MethodName := ⟨RX10, "allFitting", "()I"⟩
abbrev cX10_harmOf : ByteArray := prog_12_method_59_code
def yX10_harmOf : MethodName := ⟨RX10, "harmOf", "(I)I"⟩
abbrev cX10_worst : ByteArray := prog_12_method_60_code
def yX10_worst : MethodName := ⟨RX10, "worst", "()I"⟩
abbrev cX10_which : ByteArray := prog_12_method_61_code
def yX10_which : MethodName := ⟨RX10, "which", "(I)I"⟩
abbrev cX10_next : ByteArray := prog_12_method_62_code
def yX10_next : MethodName := ⟨RX10, "next", "()I"⟩
abbrev cX10_least : ByteArray := prog_12_method_63_code
def yX10_least : MethodName := ⟨RX10, "least", "(II)I"⟩
abbrev cX10_eased : ByteArray := prog_12_method_64_code
def yX10_eased : MethodName := ⟨RX10, "eased", "(II)I"⟩
abbrev cX10_parted : ByteArray := prog_12_method_65_code
def yX10_parted : MethodName := ⟨RX10, "parted", "(II)J"⟩
abbrev cX10_quiet : ByteArray := prog_12_method_66_code
def yX10_quiet : MethodName := ⟨RX10, "quiet", "(I)I"⟩
abbrev cX10_moved : ByteArray := prog_12_method_67_code
def yX10_moved : MethodName := ⟨RX10, "moved", "(II)I"⟩
abbrev cX10_older : ByteArray := prog_12_method_68_code
def yX10_older : MethodName := ⟨RX10, "older", "()I"⟩
abbrev cX10_harm : ByteArray := prog_12_method_69_code
def yX10_harm : MethodName := ⟨RX10, "harm", "(I)I"⟩
abbrev cX10_runs : ByteArray := prog_12_method_70_code
def yX10_runs : MethodName := ⟨RX10, "runs", "(I)V"⟩
abbrev cX10_isUnder : ByteArray := prog_12_method_71_code
def yX10_isUnder : MethodName := ⟨RX10, "isUnder", "(II)Z"⟩
abbrev cX10_plainGrows : ByteArray := prog_12_method_72_code
def yX10_plainGrows : MethodName := ⟨RX10, "plainGrows", "(I)I"⟩
abbrev cX10_growsActs : ByteArray := prog_12_method_73_code
def yX10_growsActs : MethodName := ⟨RX10, "growsActs", "(I)I"⟩
abbrev cX10_plainStrikes : ByteArray := prog_12_method_74_code
def yX10_plainStrikes : MethodName := ⟨RX10, "plainStrikes", "(I)I"⟩
abbrev cX10_strikesActs : ByteArray := prog_12_method_75_code
def yX10_strikesActs : MethodName := ⟨RX10, "strikesActs", "(I)I"⟩
abbrev cX10_plainTells : ByteArray := prog_12_method_76_code
def yX10_plainTells : MethodName := ⟨RX10, "plainTells", "(I)I"⟩
abbrev cX10_tellsActs : ByteArray := prog_12_method_77_code
def yX10_tellsActs : MethodName := ⟨RX10, "tellsActs", "(I)I"⟩
abbrev cX10_act : ByteArray := prog_12_method_78_code
def yX10_act : MethodName := ⟨RX10, "act", "(III)I"⟩
abbrev cX10_trace : ByteArray := prog_12_method_79_code
def yX10_trace : MethodName := ⟨RX10, "trace", "(I)I"⟩
abbrev cX10_as : ByteArray := prog_12_method_80_code
def yX10_as : MethodName := ⟨RX10, "as", "(II)I"⟩
abbrev cX10_image : ByteArray := prog_12_method_81_code
def yX10_image : MethodName := ⟨RX10, "image", "()I"⟩
abbrev cX10_undo : ByteArray := prog_12_method_82_code
def yX10_undo : MethodName := ⟨RX10, "undo", "()I"⟩
abbrev cX10_count : ByteArray := prog_12_method_83_code
def yX10_count : MethodName := ⟨RX10, "count", "(I)I"⟩
def RJ6 : String := "java/lang/Integer"
def TJ6 : u_T := fun k => match k with
  | _ => ("", "", "", false)
def tyJ6 : Nat → FieldType := fun k => match k with
  | _ => .int
abbrev wsJ60 : List Cond := u_ws RJ6 TJ6 0
theorem nmJ6 : ∀ a, a < 0 → ∀ b, b < 0 → a ≠ b → (TJ6 a).2.1 ≠ (TJ6 b).2.1 := by decide +kernel
theorem tyJ6_ok : ∀ k, k < 0 → parseFieldDescriptor (TJ6 k).2.2.1 = some (tyJ6 k) := by decide +kernel
abbrev cJ6_compare_7cf53 : ByteArray := prog_13_method_40_code
def yJ6_compare_7cf53 : MethodName := ⟨RJ6, "compare", "(II)I"⟩
abbrev cJ6_bitCount_0f7a4 : ByteArray := prog_13_method_49_code
def yJ6_bitCount_0f7a4 : MethodName := ⟨RJ6, "bitCount", "(I)I"⟩
def RJ13 : String := "java/lang/Long"
def TJ13 : u_T := fun k => match k with
  | _ => ("", "", "", false)
def tyJ13 : Nat → FieldType := fun k => match k with
  | _ => .int
abbrev wsJ130 : List Cond := u_ws RJ13 TJ13 0
theorem nmJ13 : ∀ a, a < 0 → ∀ b, b < 0 → a ≠ b → (TJ13 a).2.1 ≠ (TJ13 b).2.1 := by decide +kernel
theorem tyJ13_ok : ∀ k, k < 0 → parseFieldDescriptor (TJ13 k).2.2.1 = some (tyJ13 k) := by decide +kernel
abbrev cJ13_bitCount_95d88 : ByteArray := prog_14_method_50_code
def yJ13_bitCount_95d88 : MethodName := ⟨RJ13, "bitCount", "(J)I"⟩
def RJ9 : String := "java/lang/Math"
def TJ9 : u_T := fun k => match k with
  | _ => ("", "", "", false)
def tyJ9 : Nat → FieldType := fun k => match k with
  | _ => .int
abbrev wsJ90 : List Cond := u_ws RJ9 TJ9 0
theorem nmJ9 : ∀ a, a < 0 → ∀ b, b < 0 → a ≠ b → (TJ9 a).2.1 ≠ (TJ9 b).2.1 := by decide +kernel
theorem tyJ9_ok : ∀ k, k < 0 → parseFieldDescriptor (TJ9 k).2.2.1 = some (tyJ9 k) := by decide +kernel
abbrev cJ9_abs_0f7a4 : ByteArray := prog_15_method_59_code
def yJ9_abs_0f7a4 : MethodName := ⟨RJ9, "abs", "(I)I"⟩
abbrev cJ9_max_7cf53 : ByteArray := prog_15_method_65_code
def yJ9_max_7cf53 : MethodName := ⟨RJ9, "max", "(II)I"⟩
abbrev cJ9_min_7cf53 : ByteArray := prog_15_method_69_code
def yJ9_min_7cf53 : MethodName := ⟨RJ9, "min", "(II)I"⟩
def RJ0 : String := "java/lang/String"
def TJ0 : u_T := fun k => match k with
  | _ => ("", "", "", false)
def tyJ0 : Nat → FieldType := fun k => match k with
  | _ => .int
abbrev wsJ00 : List Cond := u_ws RJ0 TJ0 0
theorem nmJ0 : ∀ a, a < 0 → ∀ b, b < 0 → a ≠ b → (TJ0 a).2.1 ≠ (TJ0 b).2.1 := by decide +kernel
theorem tyJ0_ok : ∀ k, k < 0 → parseFieldDescriptor (TJ0 k).2.2.1 = some (tyJ0 k) := by decide +kernel
abbrev cJ0_length_8abf5 : ByteArray := prog_16_method_54_code
def yJ0_length_8abf5 : MethodName := ⟨RJ0, "length", "()I"⟩
abbrev cJ0_charAt_5068e : ByteArray := prog_16_method_56_code
def yJ0_charAt_5068e : MethodName := ⟨RJ0, "charAt", "(I)C"⟩
abbrev cJ0_coder_7d493 : ByteArray := prog_16_method_152_code
def yJ0_coder_7d493 : MethodName := ⟨RJ0, "coder", "()B"⟩
abbrev cJ0_isLatin1_aae02 : ByteArray := prog_16_method_154_code
def yJ0_isLatin1_aae02 : MethodName := ⟨RJ0, "isLatin1", "()Z"⟩
abbrev cJ0_checkIndex_df160 : ByteArray := prog_16_method_155_code
def yJ0_checkIndex_df160 : MethodName := ⟨RJ0, "checkIndex", "(II)V"⟩
def RJ1 : String := "java/lang/StringLatin1"
def TJ1 : u_T := fun k => match k with
  | _ => ("", "", "", false)
def tyJ1 : Nat → FieldType := fun k => match k with
  | _ => .int
abbrev wsJ10 : List Cond := u_ws RJ1 TJ1 0
theorem nmJ1 : ∀ a, a < 0 → ∀ b, b < 0 → a ≠ b → (TJ1 a).2.1 ≠ (TJ1 b).2.1 := by decide +kernel
theorem tyJ1_ok : ∀ k, k < 0 → parseFieldDescriptor (TJ1 k).2.2.1 = some (tyJ1 k) := by decide +kernel
abbrev cJ1_charAt_3b067 : ByteArray := prog_17_method_2_code
def yJ1_charAt_3b067 : MethodName := ⟨RJ1, "charAt", "([BI)C"⟩
def RJ2 : String := "java/lang/StringUTF16"
def TJ2 : u_T := fun k => match k with
  | _ => ("", "", "", false)
def tyJ2 : Nat → FieldType := fun k => match k with
  | _ => .int
abbrev wsJ20 : List Cond := u_ws RJ2 TJ2 0
theorem nmJ2 : ∀ a, a < 0 → ∀ b, b < 0 → a ≠ b → (TJ2 a).2.1 ≠ (TJ2 b).2.1 := by decide +kernel
theorem tyJ2_ok : ∀ k, k < 0 → parseFieldDescriptor (TJ2 k).2.2.1 = some (tyJ2 k) := by decide +kernel
abbrev cJ2_getChar_3b067 : ByteArray := prog_18_method_5_code
def yJ2_getChar_3b067 : MethodName := ⟨RJ2, "getChar", "([BI)C"⟩
abbrev cJ2_length_9d52b : ByteArray := prog_18_method_6_code
def yJ2_length_9d52b : MethodName := ⟨RJ2, "length", "([B)I"⟩
abbrev cJ2_charAt_3b067 : ByteArray := prog_18_method_83_code
def yJ2_charAt_3b067 : MethodName := ⟨RJ2, "charAt", "([BI)C"⟩
abbrev cJ2_checkIndex_2214a : ByteArray := prog_18_method_91_code
def yJ2_checkIndex_2214a : MethodName := ⟨RJ2, "checkIndex", "(I[B)V"⟩
def RJ10 : String := "java/lang/System"
def TJ10 : u_T := fun k => match k with
  | _ => ("", "", "", false)
def tyJ10 : Nat → FieldType := fun k => match k with
  | _ => .int
abbrev wsJ100 : List Cond := u_ws RJ10 TJ10 0
theorem nmJ10 : ∀ a, a < 0 → ∀ b, b < 0 → a ≠ b → (TJ10 a).2.1 ≠ (TJ10 b).2.1 := by decide +kernel
theorem tyJ10_ok : ∀ k, k < 0 → parseFieldDescriptor (TJ10 k).2.2.1 = some (tyJ10 k) := by decide +kernel
def RJ3 : String := "jdk/internal/util/Preconditions"
def TJ3 : u_T := fun k => match k with
  | _ => ("", "", "", false)
def tyJ3 : Nat → FieldType := fun k => match k with
  | _ => .int
abbrev wsJ30 : List Cond := u_ws RJ3 TJ3 0
theorem nmJ3 : ∀ a, a < 0 → ∀ b, b < 0 → a ≠ b → (TJ3 a).2.1 ≠ (TJ3 b).2.1 := by decide +kernel
theorem tyJ3_ok : ∀ k, k < 0 → parseFieldDescriptor (TJ3 k).2.2.1 = some (tyJ3 k) := by decide +kernel
abbrev cJ3_checkIndex_8e157 : ByteArray := prog_20_method_11_code
def yJ3_checkIndex_8e157 : MethodName := ⟨RJ3, "checkIndex", "(IILjava/util/function/BiFunction;)I"⟩
def RL : String := "KnockPipesLaw"
abbrev cL_law : ByteArray := code
def yL_law : MethodName := ⟨RL, "law", "([I)Z"⟩
abbrev vwCl : List vw_C := [(RX0, TX0, 5), (RX1, TX1, 6), (RX2, TX2, 7), (RX3, TX3, 6), (RX4, TX4, 4), (RX5, TX5, 3), (RX6, TX6, 6), (RX7, TX7, 2), (RX9, TX9, 8), (RX10, TX10, 26)]
end
section
-- the words of the tables that are good, by their places
def kp_wl : List Cond := lw_tbl.filter goodWord
theorem kp_wl_in : ∀ w ∈ kp_wl, w ∈ lw_tbl := fun w h => (List.mem_filter.mp h).1
theorem kp_wl_good : GoodIn kp_wl kp_wl := fun w h => ⟨h, good_of_word (List.mem_filter.mp h).2⟩
theorem kp_tp {w : Cond} (h : w ∈ k2_sels lw_privs) (hg : goodWord w = true) : w ∈ kp_wl := List.mem_filter.mpr ⟨List.mem_append_left _ h, hg⟩
theorem kp_tt0 {w : Cond} (h : w ∈ tables_1) (hg : goodWord w = true) : w ∈ kp_wl := List.mem_filter.mpr ⟨List.mem_append_right _ h, hg⟩
theorem kp_t1 {w : Cond} {i : Nat} (h : tables_1_1[i]? = some w) (hg : goodWord w = true) : w ∈ kp_wl := kp_tt0 (List.mem_append_left _ (List.mem_of_getElem? h)) hg
theorem kp_t2 {w : Cond} {i : Nat} (h : tables_1_2[i]? = some w) (hg : goodWord w = true) : w ∈ kp_wl := kp_tt0 (List.mem_append_right _ (List.mem_append_left _ (List.mem_of_getElem? h))) hg
theorem kp_t3 {w : Cond} {i : Nat} (h : tables_1_3[i]? = some w) (hg : goodWord w = true) : w ∈ kp_wl := kp_tt0 (List.mem_append_right _ (List.mem_append_right _ (List.mem_append_left _ (List.mem_of_getElem? h)))) hg
theorem kp_t4 {w : Cond} {i : Nat} (h : tables_1_4[i]? = some w) (hg : goodWord w = true) : w ∈ kp_wl := kp_tt0 (List.mem_append_right _ (List.mem_append_right _ (List.mem_append_right _ (List.mem_append_left _ (List.mem_of_getElem? h))))) hg
theorem kp_t5 {w : Cond} {i : Nat} (h : tables_1_5[i]? = some w) (hg : goodWord w = true) : w ∈ kp_wl := kp_tt0 (List.mem_append_right _ (List.mem_append_right _ (List.mem_append_right _ (List.mem_append_right _ ((List.mem_of_getElem? h)))))) hg
theorem q1_0 : Cond.initialized "KnockPipesLaw" ∈ kp_wl := kp_t1 (i := 0) rfl rfl
theorem q1_1 : Cond.initialized "KnockPipes" ∈ kp_wl := kp_t1 (i := 1) rfl rfl
theorem q1_2 : Cond.initialized "KnockPipes$Home" ∈ kp_wl := kp_t1 (i := 2) rfl rfl
theorem q1_3 : Cond.initialized "KnockPipes$Tape" ∈ kp_wl := kp_t1 (i := 3) rfl rfl
theorem q1_4 : Cond.initialized "KnockPipes$House" ∈ kp_wl := kp_t1 (i := 4) rfl rfl
theorem q1_5 : Cond.initialized "java/lang/System" ∈ kp_wl := kp_t1 (i := 5) rfl rfl
theorem q1_6 : Cond.initialized "KnockPipes$Noises" ∈ kp_wl := kp_t1 (i := 6) rfl rfl
theorem q1_7 : Cond.initialized "KnockPipes$Notebook" ∈ kp_wl := kp_t1 (i := 7) rfl rfl
theorem q1_8 : Cond.initialized "KnockPipes$Reader" ∈ kp_wl := kp_t1 (i := 8) rfl rfl
theorem q1_9 : Cond.initialized "KnockPipes$Sounds" ∈ kp_wl := kp_t1 (i := 9) rfl rfl
theorem q1_10 : Cond.initialized "KnockPipes$Acts" ∈ kp_wl := kp_t1 (i := 10) rfl rfl
theorem q1_11 : Cond.initialized "KnockPipesModel" ∈ kp_wl := kp_t1 (i := 11) rfl rfl
theorem q1_12 : Cond.initialized "java/lang/Long" ∈ kp_wl := kp_t1 (i := 12) rfl rfl
theorem q1_13 : Cond.initialized "java/lang/String" ∈ kp_wl := kp_t1 (i := 13) rfl rfl
theorem q1_14 : Cond.initialized "java/lang/StringLatin1" ∈ kp_wl := kp_t1 (i := 14) rfl rfl
theorem q1_15 : Cond.initialized "jdk/internal/util/Preconditions" ∈ kp_wl := kp_t1 (i := 15) rfl rfl
theorem q1_16 : Cond.initialized "java/lang/StringUTF16" ∈ kp_wl := kp_t1 (i := 16) rfl rfl
theorem q1_17 : Cond.initialized "KnockPipes$Test" ∈ kp_wl := kp_t1 (i := 17) rfl rfl
theorem q1_18 : Cond.initialized "java/lang/Integer" ∈ kp_wl := kp_t1 (i := 18) rfl rfl
theorem q1_19 : Cond.initialized "java/lang/Math" ∈ kp_wl := kp_t1 (i := 19) rfl rfl
theorem q1_20 : Cond.classLink "KnockPipesLaw" 7 "KnockPipes" ∈ kp_wl := kp_t1 (i := 20) rfl rfl
theorem q1_21 : Cond.instantiable "KnockPipes" 8 ∈ kp_wl := kp_t1 (i := 21) rfl rfl
theorem q1_22 : Cond.methodLink "KnockPipesLaw" 9 yX9_init ∈ kp_wl := kp_t1 (i := 22) rfl rfl
theorem q1_23 : Cond.instanceMethod yX9_init ∈ kp_wl := kp_t1 (i := 23) rfl rfl
theorem q1_24 : Cond.code yX9_init cX9_init 1 none ∈ kp_wl := kp_t1 (i := 24) rfl rfl
theorem q1_25 : Cond.methodLink "KnockPipes" 5 objectInit ∈ kp_wl := kp_t1 (i := 25) rfl rfl
theorem q1_26 : Cond.instanceMethod objectInit ∈ kp_wl := kp_t1 (i := 26) rfl rfl
theorem q1_28 : Cond.classLink "KnockPipes" 11 "KnockPipes$Home" ∈ kp_wl := kp_t1 (i := 28) rfl rfl
theorem q1_29 : Cond.instantiable "KnockPipes$Home" 6 ∈ kp_wl := kp_t1 (i := 29) rfl rfl
theorem q1_31 : Cond.instanceMethod yX1_init ∈ kp_wl := kp_t1 (i := 31) rfl rfl
theorem q1_32 : Cond.code yX1_init cX1_init 1 none ∈ kp_wl := kp_t1 (i := 32) rfl rfl
theorem q1_33 : Cond.methodLink "KnockPipes$Home" 3 objectInit ∈ kp_wl := kp_t1 (i := 33) rfl rfl
theorem q1_34 : Cond.classLink "KnockPipes$Home" 15 "KnockPipes$Tape" ∈ kp_wl := kp_t1 (i := 34) rfl rfl
theorem q1_35 : Cond.instantiable "KnockPipes$Tape" 2 ∈ kp_wl := kp_t1 (i := 35) rfl rfl
theorem q1_37 : Cond.instanceMethod yX7_init ∈ kp_wl := kp_t1 (i := 37) rfl rfl
theorem q1_38 : Cond.code yX7_init cX7_init 1 none ∈ kp_wl := kp_t1 (i := 38) rfl rfl
theorem q1_39 : Cond.methodLink "KnockPipes$Tape" 3 objectInit ∈ kp_wl := kp_t1 (i := 39) rfl rfl
theorem q1_40 : Cond.fieldLink "KnockPipes$Tape" 9 "KnockPipes$Tape" "bytes" "[I" ∈ kp_wl := kp_t1 (i := 40) rfl rfl
theorem q1_41 : Cond.fieldLink "KnockPipes$Reader" 47 "KnockPipes$Tape" "bytes" "[I" ∈ kp_wl := kp_t1 (i := 41) rfl rfl
theorem q1_42 : Cond.fieldLink "KnockPipes$Tape" 15 "KnockPipes$Tape" "size" "I" ∈ kp_wl := kp_t1 (i := 42) rfl rfl
theorem q1_43 : Cond.fieldLink "KnockPipes$Reader" 40 "KnockPipes$Tape" "size" "I" ∈ kp_wl := kp_t1 (i := 43) rfl rfl
theorem q1_44 : Cond.fieldLink "KnockPipes" 67 "KnockPipes$Tape" "size" "I" ∈ kp_wl := kp_t1 (i := 44) rfl rfl
theorem q1_45 : Cond.laysFinal "KnockPipes$Tape" "KnockPipes$Tape" "bytes" "[I" ∈ kp_wl := kp_t1 (i := 45) rfl rfl
theorem q1_47 : Cond.lays "KnockPipes$Tape" "KnockPipes$Tape" "size" "I" ∈ kp_wl := kp_t1 (i := 47) rfl rfl
theorem q1_50 : Cond.arrayClass .long ∈ kp_wl := kp_t1 (i := 50) rfl rfl
theorem q1_51 : Cond.arrayClass .int ∈ kp_wl := kp_t1 (i := 51) rfl rfl
theorem q1_52 : Cond.classLink "KnockPipes$Home" 22 "KnockPipes$House" ∈ kp_wl := kp_t1 (i := 52) rfl rfl
theorem q1_53 : Cond.instantiable "KnockPipes$House" 7 ∈ kp_wl := kp_t1 (i := 53) rfl rfl
theorem q1_54 : Cond.methodLink "KnockPipes$Home" 24 yX2_init ∈ kp_wl := kp_t1 (i := 54) rfl rfl
theorem q1_55 : Cond.instanceMethod yX2_init ∈ kp_wl := kp_t1 (i := 55) rfl rfl
theorem q1_56 : Cond.code yX2_init cX2_init 1 none ∈ kp_wl := kp_t1 (i := 56) rfl rfl
theorem q1_57 : Cond.methodLink "KnockPipes$House" 3 objectInit ∈ kp_wl := kp_t1 (i := 57) rfl rfl
theorem q1_58 : Cond.methodLink "KnockPipes$House" 35 yX2_empty ∈ kp_wl := kp_t1 (i := 58) rfl rfl
theorem q1_59 : Cond.instanceMethod yX2_empty ∈ kp_wl := kp_t1 (i := 59) rfl rfl
theorem q1_60 : Cond.selects "KnockPipes$House" yX2_empty yX2_empty ∈ kp_wl := kp_t1 (i := 60) rfl rfl
theorem q1_61 : Cond.code yX2_empty cX2_empty 1 none ∈ kp_wl := kp_t1 (i := 61) rfl rfl
theorem q1_64 : Cond.methodLink "KnockPipes$House" 41 ⟨"java/lang/System", "arraycopy", "(Ljava/lang/Object;ILjava/lang/Object;II)V"⟩ ∈ kp_wl := kp_t1 (i := 64) rfl rfl
theorem q1_65 : Cond.static ⟨"java/lang/System", "arraycopy", "(Ljava/lang/Object;ILjava/lang/Object;II)V"⟩ ∈ kp_wl := kp_t1 (i := 65) rfl rfl
theorem q1_66 : Cond.native ⟨"java/lang/System", "arraycopy", "(Ljava/lang/Object;ILjava/lang/Object;II)V"⟩ ∈ kp_wl := kp_t1 (i := 66) rfl rfl
theorem q1_67 : Cond.fieldLink "KnockPipes$House" 9 "KnockPipes$House" "numbers" "[I" ∈ kp_wl := kp_t1 (i := 67) rfl rfl
theorem q1_68 : Cond.fieldLink "KnockPipes" 100 "KnockPipes$House" "numbers" "[I" ∈ kp_wl := kp_t1 (i := 68) rfl rfl
theorem q1_69 : Cond.fieldLink "KnockPipes$Reader" 61 "KnockPipes$House" "numbers" "[I" ∈ kp_wl := kp_t1 (i := 69) rfl rfl
theorem q1_70 : Cond.fieldLink "KnockPipes$Sounds" 99 "KnockPipes$House" "numbers" "[I" ∈ kp_wl := kp_t1 (i := 70) rfl rfl
theorem q1_71 : Cond.fieldLink "KnockPipes$House" 15 "KnockPipes$House" "codes" "[I" ∈ kp_wl := kp_t1 (i := 71) rfl rfl
theorem q1_72 : Cond.fieldLink "KnockPipes$Sounds" 68 "KnockPipes$House" "codes" "[I" ∈ kp_wl := kp_t1 (i := 72) rfl rfl
theorem q1_73 : Cond.fieldLink "KnockPipes$House" 18 "KnockPipes$House" "grows" "[Z" ∈ kp_wl := kp_t1 (i := 73) rfl rfl
theorem q1_74 : Cond.fieldLink "KnockPipes$Sounds" 57 "KnockPipes$House" "grows" "[Z" ∈ kp_wl := kp_t1 (i := 74) rfl rfl
theorem q1_75 : Cond.fieldLink "KnockPipes$House" 22 "KnockPipes$House" "amount" "[I" ∈ kp_wl := kp_t1 (i := 75) rfl rfl
theorem q1_76 : Cond.fieldLink "KnockPipes$Sounds" 61 "KnockPipes$House" "amount" "[I" ∈ kp_wl := kp_t1 (i := 76) rfl rfl
theorem q1_77 : Cond.fieldLink "KnockPipes$House" 25 "KnockPipes$House" "end" "[I" ∈ kp_wl := kp_t1 (i := 77) rfl rfl
theorem q1_78 : Cond.fieldLink "KnockPipes$Sounds" 48 "KnockPipes$House" "end" "[I" ∈ kp_wl := kp_t1 (i := 78) rfl rfl
theorem q1_79 : Cond.fieldLink "KnockPipes$House" 28 "KnockPipes$House" "clauses" "I" ∈ kp_wl := kp_t1 (i := 79) rfl rfl
theorem q1_80 : Cond.fieldLink "KnockPipes$Sounds" 42 "KnockPipes$House" "clauses" "I" ∈ kp_wl := kp_t1 (i := 80) rfl rfl
theorem q1_81 : Cond.fieldLink "KnockPipes$House" 32 "KnockPipes$House" "size" "I" ∈ kp_wl := kp_t1 (i := 81) rfl rfl
theorem q1_82 : Cond.laysFinal "KnockPipes$House" "KnockPipes$House" "numbers" "[I" ∈ kp_wl := kp_t1 (i := 82) rfl rfl
theorem q1_84 : Cond.laysFinal "KnockPipes$House" "KnockPipes$House" "codes" "[I" ∈ kp_wl := kp_t1 (i := 84) rfl rfl
theorem q1_86 : Cond.laysFinal "KnockPipes$House" "KnockPipes$House" "grows" "[Z" ∈ kp_wl := kp_t1 (i := 86) rfl rfl
theorem q1_88 : Cond.laysFinal "KnockPipes$House" "KnockPipes$House" "amount" "[I" ∈ kp_wl := kp_t1 (i := 88) rfl rfl
theorem q1_90 : Cond.laysFinal "KnockPipes$House" "KnockPipes$House" "end" "[I" ∈ kp_wl := kp_t1 (i := 90) rfl rfl
theorem q1_92 : Cond.lays "KnockPipes$House" "KnockPipes$House" "clauses" "I" ∈ kp_wl := kp_t1 (i := 92) rfl rfl
theorem q1_94 : Cond.lays "KnockPipes$House" "KnockPipes$House" "size" "I" ∈ kp_wl := kp_t1 (i := 94) rfl rfl
theorem q1_97 : Cond.arrayClass .boolean ∈ kp_wl := kp_t1 (i := 97) rfl rfl
theorem q1_98 : Cond.classLink "KnockPipes$Home" 29 "KnockPipes$Noises" ∈ kp_wl := kp_t1 (i := 98) rfl rfl
theorem q1_99 : Cond.instantiable "KnockPipes$Noises" 6 ∈ kp_wl := kp_t1 (i := 99) rfl rfl
theorem q1_101 : Cond.instanceMethod yX3_init ∈ kp_wl := kp_t1 (i := 101) rfl rfl
theorem q1_102 : Cond.code yX3_init cX3_init 1 none ∈ kp_wl := kp_t1 (i := 102) rfl rfl
theorem q1_103 : Cond.methodLink "KnockPipes$Noises" 3 objectInit ∈ kp_wl := kp_t1 (i := 103) rfl rfl
theorem q1_104 : Cond.fieldLink "KnockPipes$Noises" 9 "KnockPipes$Noises" "kind" "[I" ∈ kp_wl := kp_t1 (i := 104) rfl rfl
theorem q1_105 : Cond.fieldLink "KnockPipes$Acts" 28 "KnockPipes$Noises" "kind" "[I" ∈ kp_wl := kp_t1 (i := 105) rfl rfl
theorem q1_106 : Cond.fieldLink "KnockPipes" 134 "KnockPipes$Noises" "kind" "[I" ∈ kp_wl := kp_t1 (i := 106) rfl rfl
theorem q1_107 : Cond.fieldLink "KnockPipes$Sounds" 86 "KnockPipes$Noises" "kind" "[I" ∈ kp_wl := kp_t1 (i := 107) rfl rfl
theorem q1_108 : Cond.fieldLink "KnockPipes$Noises" 15 "KnockPipes$Noises" "place" "[I" ∈ kp_wl := kp_t1 (i := 108) rfl rfl
theorem q1_109 : Cond.fieldLink "KnockPipes" 137 "KnockPipes$Noises" "place" "[I" ∈ kp_wl := kp_t1 (i := 109) rfl rfl
theorem q1_110 : Cond.fieldLink "KnockPipes$Sounds" 81 "KnockPipes$Noises" "place" "[I" ∈ kp_wl := kp_t1 (i := 110) rfl rfl
theorem q1_111 : Cond.fieldLink "KnockPipes$Noises" 18 "KnockPipes$Noises" "v" "[I" ∈ kp_wl := kp_t1 (i := 111) rfl rfl
theorem q1_112 : Cond.fieldLink "KnockPipes$Acts" 32 "KnockPipes$Noises" "v" "[I" ∈ kp_wl := kp_t1 (i := 112) rfl rfl
theorem q1_113 : Cond.fieldLink "KnockPipes" 140 "KnockPipes$Noises" "v" "[I" ∈ kp_wl := kp_t1 (i := 113) rfl rfl
theorem q1_114 : Cond.fieldLink "KnockPipes$Sounds" 89 "KnockPipes$Noises" "v" "[I" ∈ kp_wl := kp_t1 (i := 114) rfl rfl
theorem q1_115 : Cond.fieldLink "KnockPipes$Noises" 21 "KnockPipes$Noises" "loudness" "[I" ∈ kp_wl := kp_t1 (i := 115) rfl rfl
theorem q1_116 : Cond.fieldLink "KnockPipes" 143 "KnockPipes$Noises" "loudness" "[I" ∈ kp_wl := kp_t1 (i := 116) rfl rfl
theorem q1_117 : Cond.fieldLink "KnockPipes$Noises" 24 "KnockPipes$Noises" "still" "I" ∈ kp_wl := kp_t1 (i := 117) rfl rfl
theorem q1_118 : Cond.fieldLink "KnockPipes" 146 "KnockPipes$Noises" "still" "I" ∈ kp_wl := kp_t1 (i := 118) rfl rfl
theorem q1_119 : Cond.fieldLink "KnockPipes$Noises" 28 "KnockPipes$Noises" "count" "I" ∈ kp_wl := kp_t1 (i := 119) rfl rfl
theorem q1_120 : Cond.fieldLink "KnockPipes" 123 "KnockPipes$Noises" "count" "I" ∈ kp_wl := kp_t1 (i := 120) rfl rfl
theorem q1_121 : Cond.laysFinal "KnockPipes$Noises" "KnockPipes$Noises" "kind" "[I" ∈ kp_wl := kp_t1 (i := 121) rfl rfl
theorem q1_123 : Cond.laysFinal "KnockPipes$Noises" "KnockPipes$Noises" "place" "[I" ∈ kp_wl := kp_t1 (i := 123) rfl rfl
theorem q1_125 : Cond.laysFinal "KnockPipes$Noises" "KnockPipes$Noises" "v" "[I" ∈ kp_wl := kp_t1 (i := 125) rfl rfl
theorem q1_127 : Cond.laysFinal "KnockPipes$Noises" "KnockPipes$Noises" "loudness" "[I" ∈ kp_wl := kp_t1 (i := 127) rfl rfl
theorem q1_129 : Cond.lays "KnockPipes$Noises" "KnockPipes$Noises" "still" "I" ∈ kp_wl := kp_t1 (i := 129) rfl rfl
theorem q1_131 : Cond.lays "KnockPipes$Noises" "KnockPipes$Noises" "count" "I" ∈ kp_wl := kp_t1 (i := 131) rfl rfl
theorem q1_134 : Cond.classLink "KnockPipes$Home" 36 "KnockPipes$Notebook" ∈ kp_wl := kp_t1 (i := 134) rfl rfl
theorem q1_135 : Cond.instantiable "KnockPipes$Notebook" 4 ∈ kp_wl := kp_t1 (i := 135) rfl rfl
theorem q1_137 : Cond.instanceMethod yX4_init ∈ kp_wl := kp_t1 (i := 137) rfl rfl
theorem q1_138 : Cond.code yX4_init cX4_init 1 none ∈ kp_wl := kp_t1 (i := 138) rfl rfl
theorem q1_139 : Cond.methodLink "KnockPipes$Notebook" 3 objectInit ∈ kp_wl := kp_t1 (i := 139) rfl rfl
theorem q1_140 : Cond.fieldLink "KnockPipes$Notebook" 9 "KnockPipes$Notebook" "place" "[I" ∈ kp_wl := kp_t1 (i := 140) rfl rfl
theorem q1_141 : Cond.fieldLink "KnockPipes" 279 "KnockPipes$Notebook" "place" "[I" ∈ kp_wl := kp_t1 (i := 141) rfl rfl
theorem q1_142 : Cond.fieldLink "KnockPipes$Notebook" 15 "KnockPipes$Notebook" "minute" "[I" ∈ kp_wl := kp_t1 (i := 142) rfl rfl
theorem q1_143 : Cond.fieldLink "KnockPipes" 280 "KnockPipes$Notebook" "minute" "[I" ∈ kp_wl := kp_t1 (i := 143) rfl rfl
theorem q1_144 : Cond.fieldLink "KnockPipes$Notebook" 18 "KnockPipes$Notebook" "n" "[I" ∈ kp_wl := kp_t1 (i := 144) rfl rfl
theorem q1_145 : Cond.fieldLink "KnockPipes" 283 "KnockPipes$Notebook" "n" "[I" ∈ kp_wl := kp_t1 (i := 145) rfl rfl
theorem q1_146 : Cond.fieldLink "KnockPipes$Notebook" 21 "KnockPipes$Notebook" "count" "I" ∈ kp_wl := kp_t1 (i := 146) rfl rfl
theorem q1_147 : Cond.fieldLink "KnockPipes" 179 "KnockPipes$Notebook" "count" "I" ∈ kp_wl := kp_t1 (i := 147) rfl rfl
theorem q1_148 : Cond.laysFinal "KnockPipes$Notebook" "KnockPipes$Notebook" "place" "[I" ∈ kp_wl := kp_t1 (i := 148) rfl rfl
theorem q1_150 : Cond.laysFinal "KnockPipes$Notebook" "KnockPipes$Notebook" "minute" "[I" ∈ kp_wl := kp_t1 (i := 150) rfl rfl
theorem q1_152 : Cond.laysFinal "KnockPipes$Notebook" "KnockPipes$Notebook" "n" "[I" ∈ kp_wl := kp_t1 (i := 152) rfl rfl
theorem q1_154 : Cond.lays "KnockPipes$Notebook" "KnockPipes$Notebook" "count" "I" ∈ kp_wl := kp_t1 (i := 154) rfl rfl
theorem q1_157 : Cond.fieldLink "KnockPipes$Home" 9 "KnockPipes$Home" "day" "[J" ∈ kp_wl := kp_t1 (i := 157) rfl rfl
theorem q1_158 : Cond.fieldLink "KnockPipes" 55 "KnockPipes$Home" "day" "[J" ∈ kp_wl := kp_t1 (i := 158) rfl rfl
theorem q1_159 : Cond.fieldLink "KnockPipes$Home" 18 "KnockPipes$Home" "tape" "LKnockPipes$Tape;" ∈ kp_wl := kp_t1 (i := 159) rfl rfl
theorem q1_160 : Cond.fieldLink "KnockPipes" 63 "KnockPipes$Home" "tape" "LKnockPipes$Tape;" ∈ kp_wl := kp_t1 (i := 160) rfl rfl
theorem q1_161 : Cond.fieldLink "KnockPipes$Home" 25 "KnockPipes$Home" "house" "LKnockPipes$House;" ∈ kp_wl := kp_t1 (i := 161) rfl rfl
theorem q1_162 : Cond.fieldLink "KnockPipes" 87 "KnockPipes$Home" "house" "LKnockPipes$House;" ∈ kp_wl := kp_t1 (i := 162) rfl rfl
theorem q1_163 : Cond.fieldLink "KnockPipes$Home" 32 "KnockPipes$Home" "noises" "LKnockPipes$Noises;" ∈ kp_wl := kp_t1 (i := 163) rfl rfl
theorem q1_164 : Cond.fieldLink "KnockPipes" 119 "KnockPipes$Home" "noises" "LKnockPipes$Noises;" ∈ kp_wl := kp_t1 (i := 164) rfl rfl
theorem q1_165 : Cond.fieldLink "KnockPipes$Home" 39 "KnockPipes$Home" "book" "LKnockPipes$Notebook;" ∈ kp_wl := kp_t1 (i := 165) rfl rfl
theorem q1_166 : Cond.fieldLink "KnockPipes" 175 "KnockPipes$Home" "book" "LKnockPipes$Notebook;" ∈ kp_wl := kp_t1 (i := 166) rfl rfl
theorem q1_167 : Cond.fieldLink "KnockPipes$Home" 43 "KnockPipes$Home" "houses" "I" ∈ kp_wl := kp_t1 (i := 167) rfl rfl
theorem q1_168 : Cond.fieldLink "KnockPipes" 77 "KnockPipes$Home" "houses" "I" ∈ kp_wl := kp_t1 (i := 168) rfl rfl
theorem q1_169 : Cond.laysFinal "KnockPipes$Home" "KnockPipes$Home" "day" "[J" ∈ kp_wl := kp_t1 (i := 169) rfl rfl
theorem q1_171 : Cond.laysFinal "KnockPipes$Home" "KnockPipes$Home" "tape" "LKnockPipes$Tape;" ∈ kp_wl := kp_t1 (i := 171) rfl rfl
theorem q1_173 : Cond.laysFinal "KnockPipes$Home" "KnockPipes$Home" "house" "LKnockPipes$House;" ∈ kp_wl := kp_t1 (i := 173) rfl rfl
theorem q1_175 : Cond.laysFinal "KnockPipes$Home" "KnockPipes$Home" "noises" "LKnockPipes$Noises;" ∈ kp_wl := kp_t1 (i := 175) rfl rfl
theorem q1_177 : Cond.laysFinal "KnockPipes$Home" "KnockPipes$Home" "book" "LKnockPipes$Notebook;" ∈ kp_wl := kp_t1 (i := 177) rfl rfl
theorem q1_179 : Cond.lays "KnockPipes$Home" "KnockPipes$Home" "houses" "I" ∈ kp_wl := kp_t1 (i := 179) rfl rfl
theorem q1_182 : Cond.classLink "KnockPipes" 25 "KnockPipes$Reader" ∈ kp_wl := kp_t1 (i := 182) rfl rfl
theorem q1_183 : Cond.instantiable "KnockPipes$Reader" 3 ∈ kp_wl := kp_t1 (i := 183) rfl rfl
theorem q1_185 : Cond.instanceMethod yX5_init ∈ kp_wl := kp_t1 (i := 185) rfl rfl
theorem q1_186 : Cond.code yX5_init cX5_init 1 none ∈ kp_wl := kp_t1 (i := 186) rfl rfl
theorem q1_187 : Cond.methodLink "KnockPipes$Reader" 3 objectInit ∈ kp_wl := kp_t1 (i := 187) rfl rfl
theorem q1_188 : Cond.classLink "KnockPipes$Reader" 9 "KnockPipes$House" ∈ kp_wl := kp_t1 (i := 188) rfl rfl
theorem q1_189 : Cond.methodLink "KnockPipes$Reader" 11 yX2_init ∈ kp_wl := kp_t1 (i := 189) rfl rfl
theorem q1_190 : Cond.classLink "KnockPipes$Reader" 18 "KnockPipes$Tape" ∈ kp_wl := kp_t1 (i := 190) rfl rfl
theorem q1_192 : Cond.fieldLink "KnockPipes$Reader" 12 "KnockPipes$Reader" "draft" "LKnockPipes$House;" ∈ kp_wl := kp_t1 (i := 192) rfl rfl
theorem q1_193 : Cond.fieldLink "KnockPipes" 91 "KnockPipes$Reader" "draft" "LKnockPipes$House;" ∈ kp_wl := kp_t1 (i := 193) rfl rfl
theorem q1_194 : Cond.fieldLink "KnockPipes$Reader" 21 "KnockPipes$Reader" "tape" "LKnockPipes$Tape;" ∈ kp_wl := kp_t1 (i := 194) rfl rfl
theorem q1_195 : Cond.fieldLink "KnockPipes$Reader" 25 "KnockPipes$Reader" "at" "I" ∈ kp_wl := kp_t1 (i := 195) rfl rfl
theorem q1_196 : Cond.fieldLink "KnockPipes" 84 "KnockPipes$Reader" "at" "I" ∈ kp_wl := kp_t1 (i := 196) rfl rfl
theorem q1_197 : Cond.laysFinal "KnockPipes$Reader" "KnockPipes$Reader" "draft" "LKnockPipes$House;" ∈ kp_wl := kp_t1 (i := 197) rfl rfl
theorem q1_199 : Cond.laysFinal "KnockPipes$Reader" "KnockPipes$Reader" "tape" "LKnockPipes$Tape;" ∈ kp_wl := kp_t1 (i := 199) rfl rfl
theorem q1_201 : Cond.lays "KnockPipes$Reader" "KnockPipes$Reader" "at" "I" ∈ kp_wl := kp_t1 (i := 201) rfl rfl
theorem q1_204 : Cond.classLink "KnockPipes" 32 "KnockPipes$Sounds" ∈ kp_wl := kp_t1 (i := 204) rfl rfl
theorem q1_205 : Cond.instantiable "KnockPipes$Sounds" 6 ∈ kp_wl := kp_t1 (i := 205) rfl rfl
theorem q1_207 : Cond.instanceMethod yX6_init ∈ kp_wl := kp_t1 (i := 207) rfl rfl
theorem q1_208 : Cond.code yX6_init cX6_init 1 none ∈ kp_wl := kp_t1 (i := 208) rfl rfl
theorem q1_209 : Cond.methodLink "KnockPipes$Sounds" 3 objectInit ∈ kp_wl := kp_t1 (i := 209) rfl rfl
theorem q1_210 : Cond.fieldLink "KnockPipes$Sounds" 9 "KnockPipes$Sounds" "warmth" "[I" ∈ kp_wl := kp_t1 (i := 210) rfl rfl
theorem q1_211 : Cond.fieldLink "KnockPipes" 110 "KnockPipes$Sounds" "warmth" "[I" ∈ kp_wl := kp_t1 (i := 211) rfl rfl
theorem q1_212 : Cond.fieldLink "KnockPipes$Sounds" 15 "KnockPipes$Sounds" "growth" "[I" ∈ kp_wl := kp_t1 (i := 212) rfl rfl
theorem q1_213 : Cond.fieldLink "KnockPipes$Sounds" 18 "KnockPipes$Sounds" "hold" "[I" ∈ kp_wl := kp_t1 (i := 213) rfl rfl
theorem q1_214 : Cond.fieldLink "KnockPipes$Sounds" 21 "KnockPipes$Sounds" "knocks" "[I" ∈ kp_wl := kp_t1 (i := 214) rfl rfl
theorem q1_215 : Cond.fieldLink "KnockPipes$Sounds" 24 "KnockPipes$Sounds" "bare" "[J" ∈ kp_wl := kp_t1 (i := 215) rfl rfl
theorem q1_216 : Cond.fieldLink "KnockPipes$Sounds" 28 "KnockPipes$Sounds" "stack" "[J" ∈ kp_wl := kp_t1 (i := 216) rfl rfl
theorem q1_217 : Cond.laysFinal "KnockPipes$Sounds" "KnockPipes$Sounds" "warmth" "[I" ∈ kp_wl := kp_t1 (i := 217) rfl rfl
theorem q1_219 : Cond.laysFinal "KnockPipes$Sounds" "KnockPipes$Sounds" "growth" "[I" ∈ kp_wl := kp_t1 (i := 219) rfl rfl
theorem q1_221 : Cond.laysFinal "KnockPipes$Sounds" "KnockPipes$Sounds" "hold" "[I" ∈ kp_wl := kp_t1 (i := 221) rfl rfl
theorem q1_223 : Cond.laysFinal "KnockPipes$Sounds" "KnockPipes$Sounds" "knocks" "[I" ∈ kp_wl := kp_t1 (i := 223) rfl rfl
theorem q1_225 : Cond.laysFinal "KnockPipes$Sounds" "KnockPipes$Sounds" "bare" "[J" ∈ kp_wl := kp_t1 (i := 225) rfl rfl
theorem q1_227 : Cond.laysFinal "KnockPipes$Sounds" "KnockPipes$Sounds" "stack" "[J" ∈ kp_wl := kp_t1 (i := 227) rfl rfl
theorem q1_230 : Cond.classLink "KnockPipes" 39 "KnockPipes$Acts" ∈ kp_wl := kp_t1 (i := 230) rfl rfl
theorem q1_231 : Cond.instantiable "KnockPipes$Acts" 5 ∈ kp_wl := kp_t1 (i := 231) rfl rfl
theorem q1_233 : Cond.instanceMethod yX0_init ∈ kp_wl := kp_t1 (i := 233) rfl rfl
theorem q1_234 : Cond.code yX0_init cX0_init 1 none ∈ kp_wl := kp_t1 (i := 234) rfl rfl
theorem q1_235 : Cond.methodLink "KnockPipes$Acts" 3 objectInit ∈ kp_wl := kp_t1 (i := 235) rfl rfl
theorem q1_236 : Cond.fieldLink "KnockPipes$Acts" 11 "KnockPipes$Acts" "trace" "[I" ∈ kp_wl := kp_t1 (i := 236) rfl rfl
theorem q1_237 : Cond.fieldLink "KnockPipes" 260 "KnockPipes$Acts" "trace" "[I" ∈ kp_wl := kp_t1 (i := 237) rfl rfl
theorem q1_238 : Cond.fieldLink "KnockPipes$Acts" 15 "KnockPipes$Acts" "ran" "I" ∈ kp_wl := kp_t1 (i := 238) rfl rfl
theorem q1_239 : Cond.fieldLink "KnockPipes" 253 "KnockPipes$Acts" "ran" "I" ∈ kp_wl := kp_t1 (i := 239) rfl rfl
theorem q2_0 : Cond.fieldLink "KnockPipes$Acts" 19 "KnockPipes$Acts" "kind" "I" ∈ kp_wl := kp_t2 (i := 0) rfl rfl
theorem q2_1 : Cond.fieldLink "KnockPipes$Acts" 22 "KnockPipes$Acts" "number" "I" ∈ kp_wl := kp_t2 (i := 1) rfl rfl
theorem q2_2 : Cond.fieldLink "KnockPipes$Acts" 25 "KnockPipes$Acts" "v" "I" ∈ kp_wl := kp_t2 (i := 2) rfl rfl
theorem q2_3 : Cond.laysFinal "KnockPipes$Acts" "KnockPipes$Acts" "trace" "[I" ∈ kp_wl := kp_t2 (i := 3) rfl rfl
theorem q2_5 : Cond.lays "KnockPipes$Acts" "KnockPipes$Acts" "ran" "I" ∈ kp_wl := kp_t2 (i := 5) rfl rfl
theorem q2_7 : Cond.lays "KnockPipes$Acts" "KnockPipes$Acts" "kind" "I" ∈ kp_wl := kp_t2 (i := 7) rfl rfl
theorem q2_9 : Cond.lays "KnockPipes$Acts" "KnockPipes$Acts" "number" "I" ∈ kp_wl := kp_t2 (i := 9) rfl rfl
theorem q2_11 : Cond.lays "KnockPipes$Acts" "KnockPipes$Acts" "v" "I" ∈ kp_wl := kp_t2 (i := 11) rfl rfl
theorem q2_14 : Cond.fieldLink "KnockPipes" 14 "KnockPipes" "now" "LKnockPipes$Home;" ∈ kp_wl := kp_t2 (i := 14) rfl rfl
theorem q2_15 : Cond.fieldLink "KnockPipes" 18 "KnockPipes" "kept" "LKnockPipes$Home;" ∈ kp_wl := kp_t2 (i := 15) rfl rfl
theorem q2_16 : Cond.fieldLink "KnockPipes" 21 "KnockPipes" "imaged" "Z" ∈ kp_wl := kp_t2 (i := 16) rfl rfl
theorem q2_17 : Cond.fieldLink "KnockPipes" 28 "KnockPipes" "reader" "LKnockPipes$Reader;" ∈ kp_wl := kp_t2 (i := 17) rfl rfl
theorem q2_18 : Cond.fieldLink "KnockPipes" 35 "KnockPipes" "sounds" "LKnockPipes$Sounds;" ∈ kp_wl := kp_t2 (i := 18) rfl rfl
theorem q2_19 : Cond.fieldLink "KnockPipes" 42 "KnockPipes" "acts" "LKnockPipes$Acts;" ∈ kp_wl := kp_t2 (i := 19) rfl rfl
theorem q2_20 : Cond.fieldLink "KnockPipes" 46 "KnockPipes" "settled" "Z" ∈ kp_wl := kp_t2 (i := 20) rfl rfl
theorem q2_21 : Cond.fieldLink "KnockPipes" 49 "KnockPipes" "shares" "[I" ∈ kp_wl := kp_t2 (i := 21) rfl rfl
theorem q2_22 : Cond.laysFinal "KnockPipes" "KnockPipes" "now" "LKnockPipes$Home;" ∈ kp_wl := kp_t2 (i := 22) rfl rfl
theorem q2_24 : Cond.laysFinal "KnockPipes" "KnockPipes" "kept" "LKnockPipes$Home;" ∈ kp_wl := kp_t2 (i := 24) rfl rfl
theorem q2_26 : Cond.lays "KnockPipes" "KnockPipes" "imaged" "Z" ∈ kp_wl := kp_t2 (i := 26) rfl rfl
theorem q2_28 : Cond.laysFinal "KnockPipes" "KnockPipes" "reader" "LKnockPipes$Reader;" ∈ kp_wl := kp_t2 (i := 28) rfl rfl
theorem q2_30 : Cond.laysFinal "KnockPipes" "KnockPipes" "sounds" "LKnockPipes$Sounds;" ∈ kp_wl := kp_t2 (i := 30) rfl rfl
theorem q2_32 : Cond.laysFinal "KnockPipes" "KnockPipes" "acts" "LKnockPipes$Acts;" ∈ kp_wl := kp_t2 (i := 32) rfl rfl
theorem q2_34 : Cond.lays "KnockPipes" "KnockPipes" "settled" "Z" ∈ kp_wl := kp_t2 (i := 34) rfl rfl
theorem q2_36 : Cond.laysFinal "KnockPipes" "KnockPipes" "shares" "[I" ∈ kp_wl := kp_t2 (i := 36) rfl rfl
theorem q2_39 : Cond.methodLink "KnockPipesLaw" 15 yX9_day ∈ kp_wl := kp_t2 (i := 39) rfl rfl
theorem q2_40 : Cond.instanceMethod yX9_day ∈ kp_wl := kp_t2 (i := 40) rfl rfl
theorem q2_41 : Cond.selects "KnockPipes" yX9_day yX9_day ∈ kp_wl := kp_t2 (i := 41) rfl rfl
theorem q2_42 : Cond.code yX9_day cX9_day 5 (some .int) ∈ kp_wl := kp_t2 (i := 42) rfl rfl
theorem q2_43 : Cond.constantLong "KnockPipes" 53 (1099511627775) ∈ kp_wl := kp_t2 (i := 43) rfl rfl
theorem q2_44 : Cond.methodLink "KnockPipes" 59 yJ13_bitCount_95d88 ∈ kp_wl := kp_t2 (i := 44) rfl rfl
theorem q2_45 : Cond.static yJ13_bitCount_95d88 ∈ kp_wl := kp_t2 (i := 45) rfl rfl
theorem q2_46 : Cond.code yJ13_bitCount_95d88 cJ13_bitCount_95d88 2 (some .int) ∈ kp_wl := kp_t2 (i := 46) rfl rfl
theorem q2_47 : Cond.constantLong "java/lang/Long" 314 (6148914691236517205) ∈ kp_wl := kp_t2 (i := 47) rfl rfl
theorem q2_48 : Cond.constantLong "java/lang/Long" 316 (3689348814741910323) ∈ kp_wl := kp_t2 (i := 48) rfl rfl
theorem q2_49 : Cond.constantLong "java/lang/Long" 318 (1085102592571150095) ∈ kp_wl := kp_t2 (i := 49) rfl rfl
theorem q2_50 : Cond.methodLink "KnockPipesLaw" 20 yX9_feed ∈ kp_wl := kp_t2 (i := 50) rfl rfl
theorem q2_51 : Cond.instanceMethod yX9_feed ∈ kp_wl := kp_t2 (i := 51) rfl rfl
theorem q2_52 : Cond.selects "KnockPipes" yX9_feed yX9_feed ∈ kp_wl := kp_t2 (i := 52) rfl rfl
theorem q2_53 : Cond.code yX9_feed cX9_feed 5 (some .int) ∈ kp_wl := kp_t2 (i := 53) rfl rfl
theorem q2_54 : Cond.methodLink "KnockPipes" 73 yX7_add ∈ kp_wl := kp_t2 (i := 54) rfl rfl
theorem q2_55 : Cond.instanceMethod yX7_add ∈ kp_wl := kp_t2 (i := 55) rfl rfl
theorem q2_56 : Cond.selects "KnockPipes$Tape" yX7_add yX7_add ∈ kp_wl := kp_t2 (i := 56) rfl rfl
theorem q2_57 : Cond.code yX7_add cX7_add 2 none ∈ kp_wl := kp_t2 (i := 57) rfl rfl
theorem q2_58 : Cond.methodLink "KnockPipesLaw" 25 yX9_house ∈ kp_wl := kp_t2 (i := 58) rfl rfl
theorem q2_59 : Cond.instanceMethod yX9_house ∈ kp_wl := kp_t2 (i := 59) rfl rfl
theorem q2_60 : Cond.selects "KnockPipes" yX9_house yX9_house ∈ kp_wl := kp_t2 (i := 60) rfl rfl
theorem q2_61 : Cond.code yX9_house cX9_house 2 (some .int) ∈ kp_wl := kp_t2 (i := 61) rfl rfl
theorem q2_62 : Cond.methodLink "KnockPipes" 80 yX5_reads ∈ kp_wl := kp_t2 (i := 62) rfl rfl
theorem q2_63 : Cond.instanceMethod yX5_reads ∈ kp_wl := kp_t2 (i := 63) rfl rfl
theorem q2_64 : Cond.selects "KnockPipes$Reader" yX5_reads yX5_reads ∈ kp_wl := kp_t2 (i := 64) rfl rfl
theorem q2_65 : Cond.code yX5_reads cX5_reads 3 (some .boolean) ∈ kp_wl := kp_t2 (i := 65) rfl rfl
theorem q2_66 : Cond.methodLink "KnockPipes$Reader" 29 yX7_copy ∈ kp_wl := kp_t2 (i := 66) rfl rfl
theorem q2_67 : Cond.instanceMethod yX7_copy ∈ kp_wl := kp_t2 (i := 67) rfl rfl
theorem q2_68 : Cond.selects "KnockPipes$Tape" yX7_copy yX7_copy ∈ kp_wl := kp_t2 (i := 68) rfl rfl
theorem q2_69 : Cond.code yX7_copy cX7_copy 2 none ∈ kp_wl := kp_t2 (i := 69) rfl rfl
theorem q2_70 : Cond.methodLink "KnockPipes$Tape" 19 ⟨"java/lang/System", "arraycopy", "(Ljava/lang/Object;ILjava/lang/Object;II)V"⟩ ∈ kp_wl := kp_t2 (i := 70) rfl rfl
theorem q2_71 : Cond.methodLink "KnockPipes$Reader" 33 yX2_empty ∈ kp_wl := kp_t2 (i := 71) rfl rfl
theorem q2_72 : Cond.methodLink "KnockPipes$Reader" 36 yX5_clause ∈ kp_wl := kp_t2 (i := 72) rfl rfl
theorem q2_74 : Cond.instanceMethod yX5_clause ∈ kp_wl := kp_t2 (i := 74) rfl rfl
theorem q2_75 : Cond.code yX5_clause cX5_clause 4 (some .boolean) ∈ kp_wl := kp_t2 (i := 75) rfl rfl
theorem q2_76 : Cond.methodLink "KnockPipes$Reader" 55 yX5_word ∈ kp_wl := kp_t2 (i := 76) rfl rfl
theorem q2_78 : Cond.instanceMethod yX5_word ∈ kp_wl := kp_t2 (i := 78) rfl rfl
theorem q2_79 : Cond.code yX5_word cX5_word 6 (some .int) ∈ kp_wl := kp_t2 (i := 79) rfl rfl
theorem q2_81 : Cond.methodLink "KnockPipes$Reader" 74 yJ0_charAt_5068e ∈ kp_wl := kp_t2 (i := 81) rfl rfl
theorem q2_82 : Cond.instanceMethod yJ0_charAt_5068e ∈ kp_wl := kp_t2 (i := 82) rfl rfl
theorem q2_83 : Cond.selects "java/lang/String" yJ0_charAt_5068e yJ0_charAt_5068e ∈ kp_wl := kp_t2 (i := 83) rfl rfl
theorem q2_84 : Cond.code yJ0_charAt_5068e cJ0_charAt_5068e 2 (some .char) ∈ kp_wl := kp_t2 (i := 84) rfl rfl
theorem q2_85 : Cond.methodLink "java/lang/String" 492 yJ0_isLatin1_aae02 ∈ kp_wl := kp_t2 (i := 85) rfl rfl
theorem q2_86 : Cond.instanceMethod yJ0_isLatin1_aae02 ∈ kp_wl := kp_t2 (i := 86) rfl rfl
theorem q2_87 : Cond.selects "java/lang/String" yJ0_isLatin1_aae02 yJ0_isLatin1_aae02 ∈ kp_wl := kp_t2 (i := 87) rfl rfl
theorem q2_88 : Cond.code yJ0_isLatin1_aae02 cJ0_isLatin1_aae02 1 (some .boolean) ∈ kp_wl := kp_t2 (i := 88) rfl rfl
theorem q2_89 : Cond.fieldLink "java/lang/String" 38 "java/lang/String" "COMPACT_STRINGS" "Z" ∈ kp_wl := kp_t2 (i := 89) rfl rfl
theorem q2_91 : Cond.methodLink "java/lang/String" 495 yJ1_charAt_3b067 ∈ kp_wl := kp_t2 (i := 91) rfl rfl
theorem q2_92 : Cond.static yJ1_charAt_3b067 ∈ kp_wl := kp_t2 (i := 92) rfl rfl
theorem q2_93 : Cond.code yJ1_charAt_3b067 cJ1_charAt_3b067 2 (some .char) ∈ kp_wl := kp_t2 (i := 93) rfl rfl
theorem q2_94 : Cond.methodLink "java/lang/StringLatin1" 9 yJ0_checkIndex_df160 ∈ kp_wl := kp_t2 (i := 94) rfl rfl
theorem q2_95 : Cond.static yJ0_checkIndex_df160 ∈ kp_wl := kp_t2 (i := 95) rfl rfl
theorem q2_96 : Cond.code yJ0_checkIndex_df160 cJ0_checkIndex_df160 2 none ∈ kp_wl := kp_t2 (i := 96) rfl rfl
theorem q2_97 : Cond.fieldLink "java/lang/String" 1053 "jdk/internal/util/Preconditions" "SIOOBE_FORMATTER" "Ljava/util/function/BiFunction;" ∈ kp_wl := kp_t2 (i := 97) rfl rfl
theorem q2_99 : Cond.methodLink "java/lang/String" 1059 yJ3_checkIndex_8e157 ∈ kp_wl := kp_t2 (i := 99) rfl rfl
theorem q2_100 : Cond.static yJ3_checkIndex_8e157 ∈ kp_wl := kp_t2 (i := 100) rfl rfl
theorem q2_101 : Cond.code yJ3_checkIndex_8e157 cJ3_checkIndex_8e157 3 (some .int) ∈ kp_wl := kp_t2 (i := 101) rfl rfl
theorem q2_102 : Cond.methodLink "java/lang/String" 498 yJ2_charAt_3b067 ∈ kp_wl := kp_t2 (i := 102) rfl rfl
theorem q2_103 : Cond.static yJ2_charAt_3b067 ∈ kp_wl := kp_t2 (i := 103) rfl rfl
theorem q2_104 : Cond.code yJ2_charAt_3b067 cJ2_charAt_3b067 2 (some .char) ∈ kp_wl := kp_t2 (i := 104) rfl rfl
theorem q2_105 : Cond.methodLink "java/lang/StringUTF16" 67 yJ2_checkIndex_2214a ∈ kp_wl := kp_t2 (i := 105) rfl rfl
theorem q2_106 : Cond.static yJ2_checkIndex_2214a ∈ kp_wl := kp_t2 (i := 106) rfl rfl
theorem q2_107 : Cond.code yJ2_checkIndex_2214a cJ2_checkIndex_2214a 2 none ∈ kp_wl := kp_t2 (i := 107) rfl rfl
theorem q2_108 : Cond.methodLink "java/lang/StringUTF16" 48 yJ2_length_9d52b ∈ kp_wl := kp_t2 (i := 108) rfl rfl
theorem q2_109 : Cond.static yJ2_length_9d52b ∈ kp_wl := kp_t2 (i := 109) rfl rfl
theorem q2_110 : Cond.code yJ2_length_9d52b cJ2_length_9d52b 1 (some .int) ∈ kp_wl := kp_t2 (i := 110) rfl rfl
theorem q2_111 : Cond.methodLink "java/lang/StringUTF16" 414 yJ0_checkIndex_df160 ∈ kp_wl := kp_t2 (i := 111) rfl rfl
theorem q2_112 : Cond.methodLink "java/lang/StringUTF16" 71 yJ2_getChar_3b067 ∈ kp_wl := kp_t2 (i := 112) rfl rfl
theorem q2_113 : Cond.static yJ2_getChar_3b067 ∈ kp_wl := kp_t2 (i := 113) rfl rfl
theorem q2_114 : Cond.code yJ2_getChar_3b067 cJ2_getChar_3b067 2 (some .char) ∈ kp_wl := kp_t2 (i := 114) rfl rfl
theorem q2_115 : Cond.fieldLink "java/lang/StringUTF16" 44 "java/lang/StringUTF16" "$assertionsDisabled" "Z" ∈ kp_wl := kp_t2 (i := 115) rfl rfl
theorem q2_117 : Cond.fieldLink "java/lang/StringUTF16" 59 "java/lang/StringUTF16" "HI_BYTE_SHIFT" "I" ∈ kp_wl := kp_t2 (i := 117) rfl rfl
theorem q2_119 : Cond.fieldLink "java/lang/StringUTF16" 63 "java/lang/StringUTF16" "LO_BYTE_SHIFT" "I" ∈ kp_wl := kp_t2 (i := 119) rfl rfl
theorem q2_121 : Cond.methodLink "KnockPipes$Reader" 51 yX5_peek ∈ kp_wl := kp_t2 (i := 121) rfl rfl
theorem q2_123 : Cond.instanceMethod yX5_peek ∈ kp_wl := kp_t2 (i := 123) rfl rfl
theorem q2_124 : Cond.code yX5_peek cX5_peek 1 (some .int) ∈ kp_wl := kp_t2 (i := 124) rfl rfl
theorem q2_125 : Cond.methodLink "KnockPipes$Reader" 43 yX5_eats ∈ kp_wl := kp_t2 (i := 125) rfl rfl
theorem q2_127 : Cond.instanceMethod yX5_eats ∈ kp_wl := kp_t2 (i := 127) rfl rfl
theorem q2_128 : Cond.code yX5_eats cX5_eats 2 (some .boolean) ∈ kp_wl := kp_t2 (i := 128) rfl rfl
theorem q2_129 : Cond.methodLink "KnockPipes$Reader" 58 yX5_number ∈ kp_wl := kp_t2 (i := 129) rfl rfl
theorem q2_131 : Cond.instanceMethod yX5_number ∈ kp_wl := kp_t2 (i := 131) rfl rfl
theorem q2_132 : Cond.code yX5_number cX5_number 3 (some .int) ∈ kp_wl := kp_t2 (i := 132) rfl rfl
theorem q2_133 : Cond.methodLink "KnockPipes$Reader" 80 yX5_digit ∈ kp_wl := kp_t2 (i := 133) rfl rfl
theorem q2_135 : Cond.instanceMethod yX5_digit ∈ kp_wl := kp_t2 (i := 135) rfl rfl
theorem q2_136 : Cond.code yX5_digit cX5_digit 2 (some .int) ∈ kp_wl := kp_t2 (i := 136) rfl rfl
theorem q2_137 : Cond.methodLink "KnockPipes$Reader" 64 yX5_either ∈ kp_wl := kp_t2 (i := 137) rfl rfl
theorem q2_139 : Cond.instanceMethod yX5_either ∈ kp_wl := kp_t2 (i := 139) rfl rfl
theorem q2_140 : Cond.code yX5_either cX5_either 3 (some .boolean) ∈ kp_wl := kp_t2 (i := 140) rfl rfl
theorem q2_141 : Cond.methodLink "KnockPipes$Reader" 83 yX5_both ∈ kp_wl := kp_t2 (i := 141) rfl rfl
theorem q2_143 : Cond.instanceMethod yX5_both ∈ kp_wl := kp_t2 (i := 143) rfl rfl
theorem q2_144 : Cond.code yX5_both cX5_both 3 (some .boolean) ∈ kp_wl := kp_t2 (i := 144) rfl rfl
theorem q2_145 : Cond.methodLink "KnockPipes$Reader" 90 yX5_factor ∈ kp_wl := kp_t2 (i := 145) rfl rfl
theorem q2_147 : Cond.instanceMethod yX5_factor ∈ kp_wl := kp_t2 (i := 147) rfl rfl
theorem q2_148 : Cond.code yX5_factor cX5_factor 4 (some .boolean) ∈ kp_wl := kp_t2 (i := 148) rfl rfl
theorem q2_149 : Cond.methodLink "KnockPipes$Reader" 93 yX5_test ∈ kp_wl := kp_t2 (i := 149) rfl rfl
theorem q2_151 : Cond.instanceMethod yX5_test ∈ kp_wl := kp_t2 (i := 151) rfl rfl
theorem q2_152 : Cond.code yX5_test cX5_test 4 (some .boolean) ∈ kp_wl := kp_t2 (i := 152) rfl rfl
theorem q2_154 : Cond.methodLink "KnockPipes$Reader" 100 yX5_oneOf ∈ kp_wl := kp_t2 (i := 154) rfl rfl
theorem q2_156 : Cond.instanceMethod yX5_oneOf ∈ kp_wl := kp_t2 (i := 156) rfl rfl
theorem q2_157 : Cond.code yX5_oneOf cX5_oneOf 4 (some .int) ∈ kp_wl := kp_t2 (i := 157) rfl rfl
theorem q2_158 : Cond.methodLink "KnockPipes$Reader" 110 yJ0_length_8abf5 ∈ kp_wl := kp_t2 (i := 158) rfl rfl
theorem q2_159 : Cond.instanceMethod yJ0_length_8abf5 ∈ kp_wl := kp_t2 (i := 159) rfl rfl
theorem q2_160 : Cond.selects "java/lang/String" yJ0_length_8abf5 yJ0_length_8abf5 ∈ kp_wl := kp_t2 (i := 160) rfl rfl
theorem q2_161 : Cond.code yJ0_length_8abf5 cJ0_length_8abf5 1 (some .int) ∈ kp_wl := kp_t2 (i := 161) rfl rfl
theorem q2_162 : Cond.methodLink "java/lang/String" 335 yJ0_coder_7d493 ∈ kp_wl := kp_t2 (i := 162) rfl rfl
theorem q2_163 : Cond.instanceMethod yJ0_coder_7d493 ∈ kp_wl := kp_t2 (i := 163) rfl rfl
theorem q2_164 : Cond.selects "java/lang/String" yJ0_coder_7d493 yJ0_coder_7d493 ∈ kp_wl := kp_t2 (i := 164) rfl rfl
theorem q2_165 : Cond.code yJ0_coder_7d493 cJ0_coder_7d493 1 (some .byte) ∈ kp_wl := kp_t2 (i := 165) rfl rfl
theorem q2_167 : Cond.methodLink "KnockPipes$Reader" 106 yX8_code ∈ kp_wl := kp_t2 (i := 167) rfl rfl
theorem q2_168 : Cond.static yX8_code ∈ kp_wl := kp_t2 (i := 168) rfl rfl
theorem q2_169 : Cond.code yX8_code cX8_code 3 (some .int) ∈ kp_wl := kp_t2 (i := 169) rfl rfl
theorem q2_170 : Cond.methodLink "KnockPipes$Reader" 86 yX2_put ∈ kp_wl := kp_t2 (i := 170) rfl rfl
theorem q2_171 : Cond.instanceMethod yX2_put ∈ kp_wl := kp_t2 (i := 171) rfl rfl
theorem q2_172 : Cond.selects "KnockPipes$House" yX2_put yX2_put ∈ kp_wl := kp_t2 (i := 172) rfl rfl
theorem q2_173 : Cond.code yX2_put cX2_put 2 none ∈ kp_wl := kp_t2 (i := 173) rfl rfl
theorem q2_174 : Cond.methodLink "KnockPipes$Reader" 68 yX2_close ∈ kp_wl := kp_t2 (i := 174) rfl rfl
theorem q2_175 : Cond.instanceMethod yX2_close ∈ kp_wl := kp_t2 (i := 175) rfl rfl
theorem q2_176 : Cond.selects "KnockPipes$House" yX2_close yX2_close ∈ kp_wl := kp_t2 (i := 176) rfl rfl
theorem q2_177 : Cond.code yX2_close cX2_close 3 none ∈ kp_wl := kp_t2 (i := 177) rfl rfl
theorem q2_178 : Cond.methodLink "KnockPipes" 94 yX2_copy ∈ kp_wl := kp_t2 (i := 178) rfl rfl
theorem q2_179 : Cond.instanceMethod yX2_copy ∈ kp_wl := kp_t2 (i := 179) rfl rfl
theorem q2_180 : Cond.selects "KnockPipes$House" yX2_copy yX2_copy ∈ kp_wl := kp_t2 (i := 180) rfl rfl
theorem q2_181 : Cond.code yX2_copy cX2_copy 2 none ∈ kp_wl := kp_t2 (i := 181) rfl rfl
theorem q2_182 : Cond.arrayClass .byte ∈ kp_wl := kp_t2 (i := 182) rfl rfl
theorem q2_183 : Cond.methodLink "KnockPipesLaw" 30 yX9_told ∈ kp_wl := kp_t2 (i := 183) rfl rfl
theorem q2_184 : Cond.instanceMethod yX9_told ∈ kp_wl := kp_t2 (i := 184) rfl rfl
theorem q2_185 : Cond.selects "KnockPipes" yX9_told yX9_told ∈ kp_wl := kp_t2 (i := 185) rfl rfl
theorem q2_186 : Cond.code yX9_told cX9_told 2 (some .int) ∈ kp_wl := kp_t2 (i := 186) rfl rfl
theorem q2_187 : Cond.methodLink "KnockPipesLaw" 35 yX9_warmth ∈ kp_wl := kp_t2 (i := 187) rfl rfl
theorem q2_188 : Cond.instanceMethod yX9_warmth ∈ kp_wl := kp_t2 (i := 188) rfl rfl
theorem q2_189 : Cond.selects "KnockPipes" yX9_warmth yX9_warmth ∈ kp_wl := kp_t2 (i := 189) rfl rfl
theorem q2_190 : Cond.code yX9_warmth cX9_warmth 2 (some .int) ∈ kp_wl := kp_t2 (i := 190) rfl rfl
theorem q2_191 : Cond.methodLink "KnockPipes" 103 yX9_isMinute ∈ kp_wl := kp_t2 (i := 191) rfl rfl
theorem q2_192 : Cond.static yX9_isMinute ∈ kp_wl := kp_t2 (i := 192) rfl rfl
theorem q2_193 : Cond.code yX9_isMinute cX9_isMinute 1 (some .boolean) ∈ kp_wl := kp_t2 (i := 193) rfl rfl
theorem q2_194 : Cond.methodLink "KnockPipes" 107 yX9_settle ∈ kp_wl := kp_t2 (i := 194) rfl rfl
theorem q2_196 : Cond.instanceMethod yX9_settle ∈ kp_wl := kp_t2 (i := 196) rfl rfl
theorem q2_197 : Cond.code yX9_settle cX9_settle 2 none ∈ kp_wl := kp_t2 (i := 197) rfl rfl
theorem q2_198 : Cond.methodLink "KnockPipes" 239 yX6_read ∈ kp_wl := kp_t2 (i := 198) rfl rfl
theorem q2_199 : Cond.instanceMethod yX6_read ∈ kp_wl := kp_t2 (i := 199) rfl rfl
theorem q2_200 : Cond.selects "KnockPipes$Sounds" yX6_read yX6_read ∈ kp_wl := kp_t2 (i := 200) rfl rfl
theorem q2_201 : Cond.code yX6_read cX6_read 8 none ∈ kp_wl := kp_t2 (i := 201) rfl rfl
theorem q2_202 : Cond.constantLong "KnockPipes$Sounds" 40 (1099511627775) ∈ kp_wl := kp_t2 (i := 202) rfl rfl
theorem q2_203 : Cond.methodLink "KnockPipes$Sounds" 51 yX6_holds ∈ kp_wl := kp_t2 (i := 203) rfl rfl
theorem q2_205 : Cond.instanceMethod yX6_holds ∈ kp_wl := kp_t2 (i := 205) rfl rfl
theorem q2_206 : Cond.code yX6_holds cX6_holds 9 (some .long) ∈ kp_wl := kp_t2 (i := 206) rfl rfl
theorem q2_207 : Cond.methodLink "KnockPipes$Sounds" 71 yX6_minutesOf ∈ kp_wl := kp_t2 (i := 207) rfl rfl
theorem q2_208 : Cond.static yX6_minutesOf ∈ kp_wl := kp_t2 (i := 208) rfl rfl
theorem q2_209 : Cond.code yX6_minutesOf cX6_minutesOf 4 (some .long) ∈ kp_wl := kp_t2 (i := 209) rfl rfl
theorem q2_210 : Cond.methodLink "KnockPipes$Sounds" 75 yX8_subject ∈ kp_wl := kp_t2 (i := 210) rfl rfl
theorem q2_211 : Cond.static yX8_subject ∈ kp_wl := kp_t2 (i := 211) rfl rfl
theorem q2_212 : Cond.code yX8_subject cX8_subject 1 (some .int) ∈ kp_wl := kp_t2 (i := 212) rfl rfl
theorem q2_213 : Cond.methodLink "KnockPipes$Sounds" 92 yX8_minutes ∈ kp_wl := kp_t2 (i := 213) rfl rfl
theorem q2_214 : Cond.static yX8_minutes ∈ kp_wl := kp_t2 (i := 214) rfl rfl
theorem q2_215 : Cond.code yX8_minutes cX8_minutes 6 (some .long) ∈ kp_wl := kp_t2 (i := 215) rfl rfl
theorem q2_216 : Cond.methodLink "KnockPipes$Test" 9 yX8_number ∈ kp_wl := kp_t2 (i := 216) rfl rfl
theorem q2_217 : Cond.static yX8_number ∈ kp_wl := kp_t2 (i := 217) rfl rfl
theorem q2_218 : Cond.code yX8_number cX8_number 1 (some .int) ∈ kp_wl := kp_t2 (i := 218) rfl rfl
theorem q2_219 : Cond.constantLong "KnockPipes$Test" 24 (1099511627775) ∈ kp_wl := kp_t2 (i := 219) rfl rfl
theorem q2_220 : Cond.methodLink "KnockPipes$Test" 21 yX8_sign ∈ kp_wl := kp_t2 (i := 220) rfl rfl
theorem q2_221 : Cond.static yX8_sign ∈ kp_wl := kp_t2 (i := 221) rfl rfl
theorem q2_222 : Cond.code yX8_sign cX8_sign 1 (some .int) ∈ kp_wl := kp_t2 (i := 222) rfl rfl
theorem q2_223 : Cond.constantLong "KnockPipes$Test" 26 (-1) ∈ kp_wl := kp_t2 (i := 223) rfl rfl
theorem q2_224 : Cond.methodLink "KnockPipes$Sounds" 96 yX8_holds ∈ kp_wl := kp_t2 (i := 224) rfl rfl
theorem q2_225 : Cond.static yX8_holds ∈ kp_wl := kp_t2 (i := 225) rfl rfl
theorem q2_226 : Cond.code yX8_holds cX8_holds 3 (some .boolean) ∈ kp_wl := kp_t2 (i := 226) rfl rfl
theorem q2_227 : Cond.methodLink "KnockPipes$Test" 15 yJ6_compare_7cf53 ∈ kp_wl := kp_t2 (i := 227) rfl rfl
theorem q2_228 : Cond.static yJ6_compare_7cf53 ∈ kp_wl := kp_t2 (i := 228) rfl rfl
theorem q2_229 : Cond.code yJ6_compare_7cf53 cJ6_compare_7cf53 2 (some .int) ∈ kp_wl := kp_t2 (i := 229) rfl rfl
theorem q2_230 : Cond.constantLong "KnockPipes$Sounds" 55 (-1) ∈ kp_wl := kp_t2 (i := 230) rfl rfl
theorem q2_231 : Cond.methodLink "KnockPipes$Sounds" 64 yX6_addTo ∈ kp_wl := kp_t2 (i := 231) rfl rfl
theorem q2_232 : Cond.static yX6_addTo ∈ kp_wl := kp_t2 (i := 232) rfl rfl
theorem q2_233 : Cond.code yX6_addTo cX6_addTo 6 none ∈ kp_wl := kp_t2 (i := 233) rfl rfl
theorem q2_234 : Cond.methodLink "KnockPipes" 235 yX9_ring ∈ kp_wl := kp_t2 (i := 234) rfl rfl
theorem q2_236 : Cond.instanceMethod yX9_ring ∈ kp_wl := kp_t2 (i := 236) rfl rfl
theorem q2_237 : Cond.code yX9_ring cX9_ring 8 none ∈ kp_wl := kp_t2 (i := 237) rfl rfl
theorem q2_238 : Cond.methodLink "KnockPipes" 269 yX6_warm ∈ kp_wl := kp_t2 (i := 238) rfl rfl
theorem q2_239 : Cond.instanceMethod yX6_warm ∈ kp_wl := kp_t2 (i := 239) rfl rfl
theorem q3_0 : Cond.selects "KnockPipes$Sounds" yX6_warm yX6_warm ∈ kp_wl := kp_t3 (i := 0) rfl rfl
theorem q3_1 : Cond.code yX6_warm cX6_warm 8 none ∈ kp_wl := kp_t3 (i := 1) rfl rfl
theorem q3_2 : Cond.methodLink "KnockPipes$Sounds" 102 yJ9_min_7cf53 ∈ kp_wl := kp_t3 (i := 2) rfl rfl
theorem q3_3 : Cond.static yJ9_min_7cf53 ∈ kp_wl := kp_t3 (i := 3) rfl rfl
theorem q3_4 : Cond.code yJ9_min_7cf53 cJ9_min_7cf53 2 (some .int) ∈ kp_wl := kp_t3 (i := 4) rfl rfl
theorem q3_5 : Cond.methodLink "KnockPipes$Sounds" 31 yJ9_max_7cf53 ∈ kp_wl := kp_t3 (i := 5) rfl rfl
theorem q3_6 : Cond.static yJ9_max_7cf53 ∈ kp_wl := kp_t3 (i := 6) rfl rfl
theorem q3_7 : Cond.code yJ9_max_7cf53 cJ9_max_7cf53 2 (some .int) ∈ kp_wl := kp_t3 (i := 7) rfl rfl
theorem q3_8 : Cond.methodLink "KnockPipes" 243 yX6_knock ∈ kp_wl := kp_t3 (i := 8) rfl rfl
theorem q3_9 : Cond.instanceMethod yX6_knock ∈ kp_wl := kp_t3 (i := 9) rfl rfl
theorem q3_10 : Cond.selects "KnockPipes$Sounds" yX6_knock yX6_knock ∈ kp_wl := kp_t3 (i := 10) rfl rfl
theorem q3_11 : Cond.code yX6_knock cX6_knock 12 none ∈ kp_wl := kp_t3 (i := 11) rfl rfl
theorem q3_12 : Cond.methodLink "KnockPipes$Sounds" 105 yX6_tick ∈ kp_wl := kp_t3 (i := 12) rfl rfl
theorem q3_14 : Cond.instanceMethod yX6_tick ∈ kp_wl := kp_t3 (i := 14) rfl rfl
theorem q3_15 : Cond.code yX6_tick cX6_tick 8 none ∈ kp_wl := kp_t3 (i := 15) rfl rfl
theorem q3_16 : Cond.methodLink "KnockPipes$Sounds" 119 yX6_lengthOf ∈ kp_wl := kp_t3 (i := 16) rfl rfl
theorem q3_17 : Cond.instanceMethod yX6_lengthOf ∈ kp_wl := kp_t3 (i := 17) rfl rfl
theorem q3_18 : Cond.selects "KnockPipes$Sounds" yX6_lengthOf yX6_lengthOf ∈ kp_wl := kp_t3 (i := 18) rfl rfl
theorem q3_19 : Cond.code yX6_lengthOf cX6_lengthOf 3 (some .int) ∈ kp_wl := kp_t3 (i := 19) rfl rfl
theorem q3_20 : Cond.methodLink "KnockPipes$Sounds" 122 yJ9_abs_0f7a4 ∈ kp_wl := kp_t3 (i := 20) rfl rfl
theorem q3_21 : Cond.static yJ9_abs_0f7a4 ∈ kp_wl := kp_t3 (i := 21) rfl rfl
theorem q3_22 : Cond.code yJ9_abs_0f7a4 cJ9_abs_0f7a4 1 (some .int) ∈ kp_wl := kp_t3 (i := 22) rfl rfl
theorem q3_23 : Cond.methodLink "KnockPipes$Sounds" 125 yX6_holdOf ∈ kp_wl := kp_t3 (i := 23) rfl rfl
theorem q3_24 : Cond.instanceMethod yX6_holdOf ∈ kp_wl := kp_t3 (i := 24) rfl rfl
theorem q3_25 : Cond.selects "KnockPipes$Sounds" yX6_holdOf yX6_holdOf ∈ kp_wl := kp_t3 (i := 25) rfl rfl
theorem q3_26 : Cond.code yX6_holdOf cX6_holdOf 3 (some .int) ∈ kp_wl := kp_t3 (i := 26) rfl rfl
theorem q3_27 : Cond.methodLink "KnockPipes$Sounds" 109 yX6_mark ∈ kp_wl := kp_t3 (i := 27) rfl rfl
theorem q3_29 : Cond.instanceMethod yX6_mark ∈ kp_wl := kp_t3 (i := 29) rfl rfl
theorem q3_30 : Cond.code yX6_mark cX6_mark 9 none ∈ kp_wl := kp_t3 (i := 30) rfl rfl
theorem q3_31 : Cond.methodLink "KnockPipes$Sounds" 113 yX6_lasting ∈ kp_wl := kp_t3 (i := 31) rfl rfl
theorem q3_32 : Cond.static yX6_lasting ∈ kp_wl := kp_t3 (i := 32) rfl rfl
theorem q3_33 : Cond.code yX6_lasting cX6_lasting 6 (some .long) ∈ kp_wl := kp_t3 (i := 33) rfl rfl
theorem q3_34 : Cond.constantLong "KnockPipes$Sounds" 117 (1074791425) ∈ kp_wl := kp_t3 (i := 34) rfl rfl
theorem q3_35 : Cond.methodLink "KnockPipesLaw" 39 yX9_noise ∈ kp_wl := kp_t3 (i := 35) rfl rfl
theorem q3_36 : Cond.instanceMethod yX9_noise ∈ kp_wl := kp_t3 (i := 36) rfl rfl
theorem q3_37 : Cond.selects "KnockPipes" yX9_noise yX9_noise ∈ kp_wl := kp_t3 (i := 37) rfl rfl
theorem q3_38 : Cond.code yX9_noise cX9_noise 5 (some .int) ∈ kp_wl := kp_t3 (i := 38) rfl rfl
theorem q3_39 : Cond.methodLink "KnockPipes" 113 yX9_isKind ∈ kp_wl := kp_t3 (i := 39) rfl rfl
theorem q3_40 : Cond.static yX9_isKind ∈ kp_wl := kp_t3 (i := 40) rfl rfl
theorem q3_41 : Cond.code yX9_isKind cX9_isKind 1 (some .boolean) ∈ kp_wl := kp_t3 (i := 41) rfl rfl
theorem q3_42 : Cond.methodLink "KnockPipes" 116 yX9_isPlace ∈ kp_wl := kp_t3 (i := 42) rfl rfl
theorem q3_43 : Cond.static yX9_isPlace ∈ kp_wl := kp_t3 (i := 43) rfl rfl
theorem q3_44 : Cond.code yX9_isPlace cX9_isPlace 1 (some .boolean) ∈ kp_wl := kp_t3 (i := 44) rfl rfl
theorem q3_45 : Cond.methodLink "KnockPipes" 128 yX3_add ∈ kp_wl := kp_t3 (i := 45) rfl rfl
theorem q3_46 : Cond.instanceMethod yX3_add ∈ kp_wl := kp_t3 (i := 46) rfl rfl
theorem q3_47 : Cond.selects "KnockPipes$Noises" yX3_add yX3_add ∈ kp_wl := kp_t3 (i := 47) rfl rfl
theorem q3_48 : Cond.code yX3_add cX3_add 5 (some .int) ∈ kp_wl := kp_t3 (i := 48) rfl rfl
theorem q3_49 : Cond.methodLink "KnockPipesLaw" 44 yX9_of ∈ kp_wl := kp_t3 (i := 49) rfl rfl
theorem q3_50 : Cond.instanceMethod yX9_of ∈ kp_wl := kp_t3 (i := 50) rfl rfl
theorem q3_51 : Cond.selects "KnockPipes" yX9_of yX9_of ∈ kp_wl := kp_t3 (i := 51) rfl rfl
theorem q3_52 : Cond.code yX9_of cX9_of 3 (some .int) ∈ kp_wl := kp_t3 (i := 52) rfl rfl
theorem q3_53 : Cond.methodLink "KnockPipes" 131 yX3_has ∈ kp_wl := kp_t3 (i := 53) rfl rfl
theorem q3_54 : Cond.instanceMethod yX3_has ∈ kp_wl := kp_t3 (i := 54) rfl rfl
theorem q3_55 : Cond.selects "KnockPipes$Noises" yX3_has yX3_has ∈ kp_wl := kp_t3 (i := 55) rfl rfl
theorem q3_56 : Cond.code yX3_has cX3_has 2 (some .boolean) ∈ kp_wl := kp_t3 (i := 56) rfl rfl
theorem q3_57 : Cond.methodLink "KnockPipesLaw" 49 yX9_still ∈ kp_wl := kp_t3 (i := 57) rfl rfl
theorem q3_58 : Cond.instanceMethod yX9_still ∈ kp_wl := kp_t3 (i := 58) rfl rfl
theorem q3_59 : Cond.selects "KnockPipes" yX9_still yX9_still ∈ kp_wl := kp_t3 (i := 59) rfl rfl
theorem q3_60 : Cond.code yX9_still cX9_still 4 (some .int) ∈ kp_wl := kp_t3 (i := 60) rfl rfl
theorem q3_61 : Cond.methodLink "KnockPipesLaw" 54 yX9_knocks ∈ kp_wl := kp_t3 (i := 61) rfl rfl
theorem q3_62 : Cond.instanceMethod yX9_knocks ∈ kp_wl := kp_t3 (i := 62) rfl rfl
theorem q3_63 : Cond.selects "KnockPipes" yX9_knocks yX9_knocks ∈ kp_wl := kp_t3 (i := 63) rfl rfl
theorem q3_64 : Cond.code yX9_knocks cX9_knocks 4 (some .int) ∈ kp_wl := kp_t3 (i := 64) rfl rfl
theorem q3_65 : Cond.methodLink "KnockPipes" 149 yX6_lengthOf ∈ kp_wl := kp_t3 (i := 65) rfl rfl
theorem q3_66 : Cond.methodLink "KnockPipes" 153 yX6_holdOf ∈ kp_wl := kp_t3 (i := 66) rfl rfl
theorem q3_67 : Cond.methodLink "KnockPipes" 156 yX3_isLoose ∈ kp_wl := kp_t3 (i := 67) rfl rfl
theorem q3_68 : Cond.instanceMethod yX3_isLoose ∈ kp_wl := kp_t3 (i := 68) rfl rfl
theorem q3_69 : Cond.selects "KnockPipes$Noises" yX3_isLoose yX3_isLoose ∈ kp_wl := kp_t3 (i := 69) rfl rfl
theorem q3_70 : Cond.code yX3_isLoose cX3_isLoose 2 (some .boolean) ∈ kp_wl := kp_t3 (i := 70) rfl rfl
theorem q3_71 : Cond.methodLink "KnockPipes" 159 yX6_knocksOf ∈ kp_wl := kp_t3 (i := 71) rfl rfl
theorem q3_72 : Cond.instanceMethod yX6_knocksOf ∈ kp_wl := kp_t3 (i := 72) rfl rfl
theorem q3_73 : Cond.selects "KnockPipes$Sounds" yX6_knocksOf yX6_knocksOf ∈ kp_wl := kp_t3 (i := 73) rfl rfl
theorem q3_74 : Cond.code yX6_knocksOf cX6_knocksOf 3 (some .int) ∈ kp_wl := kp_t3 (i := 74) rfl rfl
theorem q3_75 : Cond.methodLink "KnockPipesLaw" 59 yX9_loud ∈ kp_wl := kp_t3 (i := 75) rfl rfl
theorem q3_76 : Cond.instanceMethod yX9_loud ∈ kp_wl := kp_t3 (i := 76) rfl rfl
theorem q3_77 : Cond.selects "KnockPipes" yX9_loud yX9_loud ∈ kp_wl := kp_t3 (i := 77) rfl rfl
theorem q3_78 : Cond.code yX9_loud cX9_loud 4 (some .int) ∈ kp_wl := kp_t3 (i := 78) rfl rfl
theorem q3_79 : Cond.methodLink "KnockPipes" 162 yX9_loudOf ∈ kp_wl := kp_t3 (i := 79) rfl rfl
theorem q3_81 : Cond.instanceMethod yX9_loudOf ∈ kp_wl := kp_t3 (i := 81) rfl rfl
theorem q3_82 : Cond.code yX9_loudOf cX9_loudOf 7 (some .int) ∈ kp_wl := kp_t3 (i := 82) rfl rfl
theorem q3_83 : Cond.methodLink "KnockPipes" 273 yJ9_abs_0f7a4 ∈ kp_wl := kp_t3 (i := 83) rfl rfl
theorem q3_84 : Cond.methodLink "KnockPipes" 221 yJ9_max_7cf53 ∈ kp_wl := kp_t3 (i := 84) rfl rfl
theorem q3_85 : Cond.methodLink "KnockPipes" 217 yX9_isUnder ∈ kp_wl := kp_t3 (i := 85) rfl rfl
theorem q3_86 : Cond.static yX9_isUnder ∈ kp_wl := kp_t3 (i := 86) rfl rfl
theorem q3_87 : Cond.code yX9_isUnder cX9_isUnder 4 (some .boolean) ∈ kp_wl := kp_t3 (i := 87) rfl rfl
theorem q3_88 : Cond.fieldLink "KnockPipes" 266 "KnockPipes" "ABOVE" "[I" ∈ kp_wl := kp_t3 (i := 88) rfl rfl
theorem q3_90 : Cond.methodLink "KnockPipesLaw" 63 yX9_heard ∈ kp_wl := kp_t3 (i := 90) rfl rfl
theorem q3_91 : Cond.instanceMethod yX9_heard ∈ kp_wl := kp_t3 (i := 91) rfl rfl
theorem q3_92 : Cond.selects "KnockPipes" yX9_heard yX9_heard ∈ kp_wl := kp_t3 (i := 92) rfl rfl
theorem q3_93 : Cond.code yX9_heard cX9_heard 3 (some .int) ∈ kp_wl := kp_t3 (i := 93) rfl rfl
theorem q3_94 : Cond.methodLink "KnockPipes" 165 yX9_heardInDay ∈ kp_wl := kp_t3 (i := 94) rfl rfl
theorem q3_96 : Cond.instanceMethod yX9_heardInDay ∈ kp_wl := kp_t3 (i := 96) rfl rfl
theorem q3_97 : Cond.code yX9_heardInDay cX9_heardInDay 4 (some .int) ∈ kp_wl := kp_t3 (i := 97) rfl rfl
theorem q3_98 : Cond.methodLink "KnockPipes" 169 yX9_heardAt ∈ kp_wl := kp_t3 (i := 98) rfl rfl
theorem q3_100 : Cond.instanceMethod yX9_heardAt ∈ kp_wl := kp_t3 (i := 100) rfl rfl
theorem q3_101 : Cond.code yX9_heardAt cX9_heardAt 5 (some .int) ∈ kp_wl := kp_t3 (i := 101) rfl rfl
theorem q3_102 : Cond.methodLink "KnockPipes" 276 yX9_heardAlone ∈ kp_wl := kp_t3 (i := 102) rfl rfl
theorem q3_104 : Cond.instanceMethod yX9_heardAlone ∈ kp_wl := kp_t3 (i := 104) rfl rfl
theorem q3_105 : Cond.code yX9_heardAlone cX9_heardAlone 4 (some .int) ∈ kp_wl := kp_t3 (i := 105) rfl rfl
theorem q3_106 : Cond.methodLink "KnockPipes" 226 yX9_heardOf ∈ kp_wl := kp_t3 (i := 106) rfl rfl
theorem q3_108 : Cond.instanceMethod yX9_heardOf ∈ kp_wl := kp_t3 (i := 108) rfl rfl
theorem q3_109 : Cond.code yX9_heardOf cX9_heardOf 5 (some .int) ∈ kp_wl := kp_t3 (i := 109) rfl rfl
theorem q3_110 : Cond.methodLink "KnockPipesLaw" 67 yX9_seems ∈ kp_wl := kp_t3 (i := 110) rfl rfl
theorem q3_111 : Cond.instanceMethod yX9_seems ∈ kp_wl := kp_t3 (i := 111) rfl rfl
theorem q3_112 : Cond.selects "KnockPipes" yX9_seems yX9_seems ∈ kp_wl := kp_t3 (i := 112) rfl rfl
theorem q3_113 : Cond.code yX9_seems cX9_seems 6 (some .int) ∈ kp_wl := kp_t3 (i := 113) rfl rfl
theorem q3_114 : Cond.methodLink "KnockPipes" 172 yX9_loudOfAll ∈ kp_wl := kp_t3 (i := 114) rfl rfl
theorem q3_116 : Cond.instanceMethod yX9_loudOfAll ∈ kp_wl := kp_t3 (i := 116) rfl rfl
theorem q3_117 : Cond.code yX9_loudOfAll cX9_loudOfAll 6 (some .int) ∈ kp_wl := kp_t3 (i := 117) rfl rfl
theorem q3_118 : Cond.methodLink "KnockPipesLaw" 71 yX9_note ∈ kp_wl := kp_t3 (i := 118) rfl rfl
theorem q3_119 : Cond.instanceMethod yX9_note ∈ kp_wl := kp_t3 (i := 119) rfl rfl
theorem q3_120 : Cond.selects "KnockPipes" yX9_note yX9_note ∈ kp_wl := kp_t3 (i := 120) rfl rfl
theorem q3_121 : Cond.code yX9_note cX9_note 4 (some .int) ∈ kp_wl := kp_t3 (i := 121) rfl rfl
theorem q3_122 : Cond.methodLink "KnockPipes" 182 yX4_add ∈ kp_wl := kp_t3 (i := 122) rfl rfl
theorem q3_123 : Cond.instanceMethod yX4_add ∈ kp_wl := kp_t3 (i := 123) rfl rfl
theorem q3_124 : Cond.selects "KnockPipes$Notebook" yX4_add yX4_add ∈ kp_wl := kp_t3 (i := 124) rfl rfl
theorem q3_125 : Cond.code yX4_add cX4_add 4 (some .int) ∈ kp_wl := kp_t3 (i := 125) rfl rfl
theorem q3_126 : Cond.methodLink "KnockPipesLaw" 75 yX9_clear ∈ kp_wl := kp_t3 (i := 126) rfl rfl
theorem q3_127 : Cond.instanceMethod yX9_clear ∈ kp_wl := kp_t3 (i := 127) rfl rfl
theorem q3_128 : Cond.selects "KnockPipes" yX9_clear yX9_clear ∈ kp_wl := kp_t3 (i := 128) rfl rfl
theorem q3_129 : Cond.code yX9_clear cX9_clear 2 (some .int) ∈ kp_wl := kp_t3 (i := 129) rfl rfl
theorem q3_130 : Cond.methodLink "KnockPipesLaw" 79 yX9_fits ∈ kp_wl := kp_t3 (i := 130) rfl rfl
theorem q3_131 : Cond.instanceMethod yX9_fits ∈ kp_wl := kp_t3 (i := 131) rfl rfl
theorem q3_132 : Cond.selects "KnockPipes" yX9_fits yX9_fits ∈ kp_wl := kp_t3 (i := 132) rfl rfl
theorem q3_133 : Cond.code yX9_fits cX9_fits 2 (some .int) ∈ kp_wl := kp_t3 (i := 133) rfl rfl
theorem q3_134 : Cond.methodLink "KnockPipes" 185 yX9_fittingRows ∈ kp_wl := kp_t3 (i := 134) rfl rfl
theorem q3_136 : Cond.instanceMethod yX9_fittingRows ∈ kp_wl := kp_t3 (i := 136) rfl rfl
theorem q3_137 : Cond.code yX9_fittingRows cX9_fittingRows 4 (some .int) ∈ kp_wl := kp_t3 (i := 137) rfl rfl
theorem q3_138 : Cond.methodLink "KnockPipesLaw" 83 yX9_odds ∈ kp_wl := kp_t3 (i := 138) rfl rfl
theorem q3_139 : Cond.instanceMethod yX9_odds ∈ kp_wl := kp_t3 (i := 139) rfl rfl
theorem q3_140 : Cond.selects "KnockPipes" yX9_odds yX9_odds ∈ kp_wl := kp_t3 (i := 140) rfl rfl
theorem q3_141 : Cond.code yX9_odds cX9_odds 6 (some .int) ∈ kp_wl := kp_t3 (i := 141) rfl rfl
theorem q3_142 : Cond.methodLink "KnockPipes" 188 yJ6_bitCount_0f7a4 ∈ kp_wl := kp_t3 (i := 142) rfl rfl
theorem q3_143 : Cond.static yJ6_bitCount_0f7a4 ∈ kp_wl := kp_t3 (i := 143) rfl rfl
theorem q3_144 : Cond.code yJ6_bitCount_0f7a4 cJ6_bitCount_0f7a4 1 (some .int) ∈ kp_wl := kp_t3 (i := 144) rfl rfl
theorem q3_145 : Cond.constant "java/lang/Integer" 265 (1431655765) ∈ kp_wl := kp_t3 (i := 145) rfl rfl
theorem q3_146 : Cond.constant "java/lang/Integer" 266 (858993459) ∈ kp_wl := kp_t3 (i := 146) rfl rfl
theorem q3_147 : Cond.constant "java/lang/Integer" 267 (252645135) ∈ kp_wl := kp_t3 (i := 147) rfl rfl
theorem q3_148 : Cond.methodLink "KnockPipes" 192 yX9_greatestShared ∈ kp_wl := kp_t3 (i := 148) rfl rfl
theorem q3_149 : Cond.static yX9_greatestShared ∈ kp_wl := kp_t3 (i := 149) rfl rfl
theorem q3_150 : Cond.code yX9_greatestShared cX9_greatestShared 6 (some .int) ∈ kp_wl := kp_t3 (i := 150) rfl rfl
theorem q3_151 : Cond.methodLink "KnockPipesLaw" 87 yX9_which ∈ kp_wl := kp_t3 (i := 151) rfl rfl
theorem q3_152 : Cond.instanceMethod yX9_which ∈ kp_wl := kp_t3 (i := 152) rfl rfl
theorem q3_153 : Cond.selects "KnockPipes" yX9_which yX9_which ∈ kp_wl := kp_t3 (i := 153) rfl rfl
theorem q3_154 : Cond.code yX9_which cX9_which 2 (some .int) ∈ kp_wl := kp_t3 (i := 154) rfl rfl
theorem q3_155 : Cond.methodLink "KnockPipes" 195 yX9_mostFitting ∈ kp_wl := kp_t3 (i := 155) rfl rfl
theorem q3_157 : Cond.instanceMethod yX9_mostFitting ∈ kp_wl := kp_t3 (i := 157) rfl rfl
theorem q3_158 : Cond.code yX9_mostFitting cX9_mostFitting 5 (some .int) ∈ kp_wl := kp_t3 (i := 158) rfl rfl
theorem q3_159 : Cond.methodLink "KnockPipes" 199 yX9_allFitting ∈ kp_wl := kp_t3 (i := 159) rfl rfl
theorem q3_161 : Cond.instanceMethod yX9_allFitting ∈ kp_wl := kp_t3 (i := 161) rfl rfl
theorem q3_162 : Cond.code yX9_allFitting cX9_allFitting 4 (some .int) ∈ kp_wl := kp_t3 (i := 162) rfl rfl
theorem q3_163 : Cond.methodLink "KnockPipes" 286 yX9_fitsAllRows ∈ kp_wl := kp_t3 (i := 163) rfl rfl
theorem q3_165 : Cond.instanceMethod yX9_fitsAllRows ∈ kp_wl := kp_t3 (i := 165) rfl rfl
theorem q3_166 : Cond.code yX9_fitsAllRows cX9_fitsAllRows 3 (some .boolean) ∈ kp_wl := kp_t3 (i := 166) rfl rfl
theorem q3_167 : Cond.methodLink "KnockPipes" 214 yX9_shareOf ∈ kp_wl := kp_t3 (i := 167) rfl rfl
theorem q3_169 : Cond.instanceMethod yX9_shareOf ∈ kp_wl := kp_t3 (i := 169) rfl rfl
theorem q3_170 : Cond.code yX9_shareOf cX9_shareOf 5 (some .int) ∈ kp_wl := kp_t3 (i := 170) rfl rfl
theorem q3_171 : Cond.methodLink "KnockPipes" 202 yX9_worst ∈ kp_wl := kp_t3 (i := 171) rfl rfl
theorem q3_173 : Cond.instanceMethod yX9_worst ∈ kp_wl := kp_t3 (i := 173) rfl rfl
theorem q3_174 : Cond.code yX9_worst cX9_worst 5 (some .int) ∈ kp_wl := kp_t3 (i := 174) rfl rfl
theorem q3_175 : Cond.methodLink "KnockPipes" 250 yX9_harmOf ∈ kp_wl := kp_t3 (i := 175) rfl rfl
theorem q3_177 : Cond.instanceMethod yX9_harmOf ∈ kp_wl := kp_t3 (i := 177) rfl rfl
theorem q3_178 : Cond.code yX9_harmOf cX9_harmOf 4 (some .int) ∈ kp_wl := kp_t3 (i := 178) rfl rfl
theorem q3_179 : Cond.methodLink "KnockPipesLaw" 91 yX9_next ∈ kp_wl := kp_t3 (i := 179) rfl rfl
theorem q3_180 : Cond.instanceMethod yX9_next ∈ kp_wl := kp_t3 (i := 180) rfl rfl
theorem q3_181 : Cond.selects "KnockPipes" yX9_next yX9_next ∈ kp_wl := kp_t3 (i := 181) rfl rfl
theorem q3_182 : Cond.code yX9_next cX9_next 6 (some .int) ∈ kp_wl := kp_t3 (i := 182) rfl rfl
theorem q3_183 : Cond.methodLink "KnockPipes" 205 yX9_mostAlike ∈ kp_wl := kp_t3 (i := 183) rfl rfl
theorem q3_185 : Cond.instanceMethod yX9_mostAlike ∈ kp_wl := kp_t3 (i := 185) rfl rfl
theorem q3_186 : Cond.code yX9_mostAlike cX9_mostAlike 7 (some .int) ∈ kp_wl := kp_t3 (i := 186) rfl rfl
theorem q3_187 : Cond.methodLink "KnockPipesLaw" 95 yX9_least ∈ kp_wl := kp_t3 (i := 187) rfl rfl
theorem q3_188 : Cond.instanceMethod yX9_least ∈ kp_wl := kp_t3 (i := 188) rfl rfl
theorem q3_189 : Cond.selects "KnockPipes" yX9_least yX9_least ∈ kp_wl := kp_t3 (i := 189) rfl rfl
theorem q3_190 : Cond.code yX9_least cX9_least 7 (some .int) ∈ kp_wl := kp_t3 (i := 190) rfl rfl
theorem q3_191 : Cond.methodLink "KnockPipes" 208 yX3_loose ∈ kp_wl := kp_t3 (i := 191) rfl rfl
theorem q3_192 : Cond.instanceMethod yX3_loose ∈ kp_wl := kp_t3 (i := 192) rfl rfl
theorem q3_193 : Cond.selects "KnockPipes$Noises" yX3_loose yX3_loose ∈ kp_wl := kp_t3 (i := 193) rfl rfl
theorem q3_194 : Cond.code yX3_loose cX3_loose 1 (some .int) ∈ kp_wl := kp_t3 (i := 194) rfl rfl
theorem q3_195 : Cond.methodLink "KnockPipes" 211 yX9_heardInDayOf ∈ kp_wl := kp_t3 (i := 195) rfl rfl
theorem q3_197 : Cond.instanceMethod yX9_heardInDayOf ∈ kp_wl := kp_t3 (i := 197) rfl rfl
theorem q3_198 : Cond.code yX9_heardInDayOf cX9_heardInDayOf 5 (some .int) ∈ kp_wl := kp_t3 (i := 198) rfl rfl
theorem q3_199 : Cond.methodLink "KnockPipesLaw" 99 yX9_eased ∈ kp_wl := kp_t3 (i := 199) rfl rfl
theorem q3_200 : Cond.instanceMethod yX9_eased ∈ kp_wl := kp_t3 (i := 200) rfl rfl
theorem q3_201 : Cond.selects "KnockPipes" yX9_eased yX9_eased ∈ kp_wl := kp_t3 (i := 201) rfl rfl
theorem q3_202 : Cond.code yX9_eased cX9_eased 7 (some .int) ∈ kp_wl := kp_t3 (i := 202) rfl rfl
theorem q3_203 : Cond.methodLink "KnockPipesLaw" 103 yX9_parted ∈ kp_wl := kp_t3 (i := 203) rfl rfl
theorem q3_204 : Cond.instanceMethod yX9_parted ∈ kp_wl := kp_t3 (i := 204) rfl rfl
theorem q3_205 : Cond.selects "KnockPipes" yX9_parted yX9_parted ∈ kp_wl := kp_t3 (i := 205) rfl rfl
theorem q3_206 : Cond.code yX9_parted cX9_parted 3 (some .long) ∈ kp_wl := kp_t3 (i := 206) rfl rfl
theorem q3_207 : Cond.constantLong "KnockPipes" 229 (-9223372036854775808) ∈ kp_wl := kp_t3 (i := 207) rfl rfl
theorem q3_208 : Cond.methodLink "KnockPipes" 231 yX6_knockingOf ∈ kp_wl := kp_t3 (i := 208) rfl rfl
theorem q3_209 : Cond.instanceMethod yX6_knockingOf ∈ kp_wl := kp_t3 (i := 209) rfl rfl
theorem q3_210 : Cond.selects "KnockPipes$Sounds" yX6_knockingOf yX6_knockingOf ∈ kp_wl := kp_t3 (i := 210) rfl rfl
theorem q3_211 : Cond.code yX6_knockingOf cX6_knockingOf 5 (some .long) ∈ kp_wl := kp_t3 (i := 211) rfl rfl
theorem q3_212 : Cond.methodLink "KnockPipes$Sounds" 37 yX6_knocksOf ∈ kp_wl := kp_t3 (i := 212) rfl rfl
theorem q3_213 : Cond.methodLink "KnockPipesLaw" 108 yX9_quiet ∈ kp_wl := kp_t3 (i := 213) rfl rfl
theorem q3_214 : Cond.instanceMethod yX9_quiet ∈ kp_wl := kp_t3 (i := 214) rfl rfl
theorem q3_215 : Cond.selects "KnockPipes" yX9_quiet yX9_quiet ∈ kp_wl := kp_t3 (i := 215) rfl rfl
theorem q3_216 : Cond.code yX9_quiet cX9_quiet 4 (some .int) ∈ kp_wl := kp_t3 (i := 216) rfl rfl
theorem q3_217 : Cond.methodLink "KnockPipesLaw" 112 yX9_moved ∈ kp_wl := kp_t3 (i := 217) rfl rfl
theorem q3_218 : Cond.instanceMethod yX9_moved ∈ kp_wl := kp_t3 (i := 218) rfl rfl
theorem q3_219 : Cond.selects "KnockPipes" yX9_moved yX9_moved ∈ kp_wl := kp_t3 (i := 219) rfl rfl
theorem q3_220 : Cond.code yX9_moved cX9_moved 8 (some .int) ∈ kp_wl := kp_t3 (i := 220) rfl rfl
theorem q3_221 : Cond.methodLink "KnockPipesLaw" 116 yX9_older ∈ kp_wl := kp_t3 (i := 221) rfl rfl
theorem q3_222 : Cond.instanceMethod yX9_older ∈ kp_wl := kp_t3 (i := 222) rfl rfl
theorem q3_223 : Cond.selects "KnockPipes" yX9_older yX9_older ∈ kp_wl := kp_t3 (i := 223) rfl rfl
theorem q3_224 : Cond.code yX9_older cX9_older 3 (some .int) ∈ kp_wl := kp_t3 (i := 224) rfl rfl
theorem q3_225 : Cond.methodLink "KnockPipes" 247 yX9_rowsHeard ∈ kp_wl := kp_t3 (i := 225) rfl rfl
theorem q3_227 : Cond.instanceMethod yX9_rowsHeard ∈ kp_wl := kp_t3 (i := 227) rfl rfl
theorem q3_228 : Cond.code yX9_rowsHeard cX9_rowsHeard 3 (some .int) ∈ kp_wl := kp_t3 (i := 228) rfl rfl
theorem q3_229 : Cond.methodLink "KnockPipesLaw" 120 yX9_harm ∈ kp_wl := kp_t3 (i := 229) rfl rfl
theorem q3_230 : Cond.instanceMethod yX9_harm ∈ kp_wl := kp_t3 (i := 230) rfl rfl
theorem q3_231 : Cond.selects "KnockPipes" yX9_harm yX9_harm ∈ kp_wl := kp_t3 (i := 231) rfl rfl
theorem q3_232 : Cond.code yX9_harm cX9_harm 2 (some .int) ∈ kp_wl := kp_t3 (i := 232) rfl rfl
theorem q3_233 : Cond.methodLink "KnockPipesLaw" 124 yX9_act ∈ kp_wl := kp_t3 (i := 233) rfl rfl
theorem q3_234 : Cond.instanceMethod yX9_act ∈ kp_wl := kp_t3 (i := 234) rfl rfl
theorem q3_235 : Cond.selects "KnockPipes" yX9_act yX9_act ∈ kp_wl := kp_t3 (i := 235) rfl rfl
theorem q3_236 : Cond.code yX9_act cX9_act 4 (some .int) ∈ kp_wl := kp_t3 (i := 236) rfl rfl
theorem q3_237 : Cond.methodLink "KnockPipes" 256 yX0_start ∈ kp_wl := kp_t3 (i := 237) rfl rfl
theorem q3_238 : Cond.instanceMethod yX0_start ∈ kp_wl := kp_t3 (i := 238) rfl rfl
theorem q3_239 : Cond.selects "KnockPipes$Acts" yX0_start yX0_start ∈ kp_wl := kp_t3 (i := 239) rfl rfl
theorem q4_0 : Cond.code yX0_start cX0_start 5 (some .int) ∈ kp_wl := kp_t4 (i := 0) rfl rfl
theorem q4_1 : Cond.methodLink "KnockPipes$Acts" 34 yX0_send ∈ kp_wl := kp_t4 (i := 1) rfl rfl
theorem q4_3 : Cond.instanceMethod yX0_send ∈ kp_wl := kp_t4 (i := 3) rfl rfl
theorem q4_4 : Cond.code yX0_send cX0_send 8 (some .int) ∈ kp_wl := kp_t4 (i := 4) rfl rfl
theorem q4_6 : Cond.fieldLink "KnockPipes$Acts" 42 "KnockPipes$Acts" "BODIES" "[I" ∈ kp_wl := kp_t4 (i := 6) rfl rfl
theorem q4_9 : Cond.methodLink "KnockPipes$Acts" 48 yX0_run ∈ kp_wl := kp_t4 (i := 9) rfl rfl
theorem q4_11 : Cond.instanceMethod yX0_run ∈ kp_wl := kp_t4 (i := 11) rfl rfl
theorem q4_12 : Cond.code yX0_run cX0_run 5 (some .int) ∈ kp_wl := kp_t4 (i := 12) rfl rfl
theorem q4_13 : Cond.methodLink "KnockPipesLaw" 128 yX9_trace ∈ kp_wl := kp_t4 (i := 13) rfl rfl
theorem q4_14 : Cond.instanceMethod yX9_trace ∈ kp_wl := kp_t4 (i := 14) rfl rfl
theorem q4_15 : Cond.selects "KnockPipes" yX9_trace yX9_trace ∈ kp_wl := kp_t4 (i := 15) rfl rfl
theorem q4_16 : Cond.code yX9_trace cX9_trace 2 (some .int) ∈ kp_wl := kp_t4 (i := 16) rfl rfl
theorem q4_17 : Cond.methodLink "KnockPipesLaw" 132 yX9_as ∈ kp_wl := kp_t4 (i := 17) rfl rfl
theorem q4_18 : Cond.instanceMethod yX9_as ∈ kp_wl := kp_t4 (i := 18) rfl rfl
theorem q4_19 : Cond.selects "KnockPipes" yX9_as yX9_as ∈ kp_wl := kp_t4 (i := 19) rfl rfl
theorem q4_20 : Cond.code yX9_as cX9_as 3 (some .int) ∈ kp_wl := kp_t4 (i := 20) rfl rfl
theorem q4_21 : Cond.methodLink "KnockPipesLaw" 136 yX9_image ∈ kp_wl := kp_t4 (i := 21) rfl rfl
theorem q4_22 : Cond.instanceMethod yX9_image ∈ kp_wl := kp_t4 (i := 22) rfl rfl
theorem q4_23 : Cond.selects "KnockPipes" yX9_image yX9_image ∈ kp_wl := kp_t4 (i := 23) rfl rfl
theorem q4_24 : Cond.code yX9_image cX9_image 1 (some .int) ∈ kp_wl := kp_t4 (i := 24) rfl rfl
theorem q4_25 : Cond.methodLink "KnockPipes" 263 yX1_copy ∈ kp_wl := kp_t4 (i := 25) rfl rfl
theorem q4_26 : Cond.instanceMethod yX1_copy ∈ kp_wl := kp_t4 (i := 26) rfl rfl
theorem q4_27 : Cond.selects "KnockPipes$Home" yX1_copy yX1_copy ∈ kp_wl := kp_t4 (i := 27) rfl rfl
theorem q4_28 : Cond.code yX1_copy cX1_copy 2 none ∈ kp_wl := kp_t4 (i := 28) rfl rfl
theorem q4_29 : Cond.methodLink "KnockPipes$Home" 47 ⟨"java/lang/System", "arraycopy", "(Ljava/lang/Object;ILjava/lang/Object;II)V"⟩ ∈ kp_wl := kp_t4 (i := 29) rfl rfl
theorem q4_30 : Cond.methodLink "KnockPipes$Home" 53 yX7_copy ∈ kp_wl := kp_t4 (i := 30) rfl rfl
theorem q4_31 : Cond.methodLink "KnockPipes$Home" 57 yX2_copy ∈ kp_wl := kp_t4 (i := 31) rfl rfl
theorem q4_32 : Cond.methodLink "KnockPipes$Home" 60 yX3_copy ∈ kp_wl := kp_t4 (i := 32) rfl rfl
theorem q4_33 : Cond.instanceMethod yX3_copy ∈ kp_wl := kp_t4 (i := 33) rfl rfl
theorem q4_34 : Cond.selects "KnockPipes$Noises" yX3_copy yX3_copy ∈ kp_wl := kp_t4 (i := 34) rfl rfl
theorem q4_35 : Cond.code yX3_copy cX3_copy 2 none ∈ kp_wl := kp_t4 (i := 35) rfl rfl
theorem q4_36 : Cond.methodLink "KnockPipes$Noises" 31 ⟨"java/lang/System", "arraycopy", "(Ljava/lang/Object;ILjava/lang/Object;II)V"⟩ ∈ kp_wl := kp_t4 (i := 36) rfl rfl
theorem q4_37 : Cond.methodLink "KnockPipes$Home" 63 yX4_copy ∈ kp_wl := kp_t4 (i := 37) rfl rfl
theorem q4_38 : Cond.instanceMethod yX4_copy ∈ kp_wl := kp_t4 (i := 38) rfl rfl
theorem q4_39 : Cond.selects "KnockPipes$Notebook" yX4_copy yX4_copy ∈ kp_wl := kp_t4 (i := 39) rfl rfl
theorem q4_40 : Cond.code yX4_copy cX4_copy 2 none ∈ kp_wl := kp_t4 (i := 40) rfl rfl
theorem q4_41 : Cond.methodLink "KnockPipes$Notebook" 25 ⟨"java/lang/System", "arraycopy", "(Ljava/lang/Object;ILjava/lang/Object;II)V"⟩ ∈ kp_wl := kp_t4 (i := 41) rfl rfl
theorem q4_42 : Cond.methodLink "KnockPipesLaw" 140 yX9_undo ∈ kp_wl := kp_t4 (i := 42) rfl rfl
theorem q4_43 : Cond.instanceMethod yX9_undo ∈ kp_wl := kp_t4 (i := 43) rfl rfl
theorem q4_44 : Cond.selects "KnockPipes" yX9_undo yX9_undo ∈ kp_wl := kp_t4 (i := 44) rfl rfl
theorem q4_45 : Cond.code yX9_undo cX9_undo 1 (some .int) ∈ kp_wl := kp_t4 (i := 45) rfl rfl
theorem q4_46 : Cond.methodLink "KnockPipesLaw" 144 yX9_count ∈ kp_wl := kp_t4 (i := 46) rfl rfl
theorem q4_47 : Cond.instanceMethod yX9_count ∈ kp_wl := kp_t4 (i := 47) rfl rfl
theorem q4_48 : Cond.selects "KnockPipes" yX9_count yX9_count ∈ kp_wl := kp_t4 (i := 48) rfl rfl
theorem q4_49 : Cond.code yX9_count cX9_count 2 (some .int) ∈ kp_wl := kp_t4 (i := 49) rfl rfl
theorem q4_50 : Cond.classLink "KnockPipesLaw" 10 "KnockPipesModel" ∈ kp_wl := kp_t4 (i := 50) rfl rfl
theorem q4_51 : Cond.instantiable "KnockPipesModel" 26 ∈ kp_wl := kp_t4 (i := 51) rfl rfl
theorem q4_52 : Cond.methodLink "KnockPipesLaw" 12 yX10_init ∈ kp_wl := kp_t4 (i := 52) rfl rfl
theorem q4_53 : Cond.instanceMethod yX10_init ∈ kp_wl := kp_t4 (i := 53) rfl rfl
theorem q4_54 : Cond.code yX10_init cX10_init 1 none ∈ kp_wl := kp_t4 (i := 54) rfl rfl
theorem q4_55 : Cond.methodLink "KnockPipesModel" 3 objectInit ∈ kp_wl := kp_t4 (i := 55) rfl rfl
theorem q4_56 : Cond.fieldLink "KnockPipesModel" 9 "KnockPipesModel" "s" "[I" ∈ kp_wl := kp_t4 (i := 56) rfl rfl
theorem q4_57 : Cond.fieldLink "KnockPipesModel" 15 "KnockPipesModel" "image" "[I" ∈ kp_wl := kp_t4 (i := 57) rfl rfl
theorem q4_58 : Cond.fieldLink "KnockPipesModel" 289 "KnockPipesModel" "hasImage" "Z" ∈ kp_wl := kp_t4 (i := 58) rfl rfl
theorem q4_59 : Cond.fieldLink "KnockPipesModel" 79 "KnockPipesModel" "act" "I" ∈ kp_wl := kp_t4 (i := 59) rfl rfl
theorem q4_60 : Cond.fieldLink "KnockPipesModel" 52 "KnockPipesModel" "spot" "I" ∈ kp_wl := kp_t4 (i := 60) rfl rfl
theorem q4_61 : Cond.fieldLink "KnockPipesModel" 55 "KnockPipesModel" "end" "I" ∈ kp_wl := kp_t4 (i := 61) rfl rfl
theorem q4_62 : Cond.fieldLink "KnockPipesModel" 58 "KnockPipesModel" "isWrong" "Z" ∈ kp_wl := kp_t4 (i := 62) rfl rfl
theorem q4_63 : Cond.fieldLink "KnockPipesModel" 82 "KnockPipesModel" "open" "I" ∈ kp_wl := kp_t4 (i := 63) rfl rfl
theorem q4_64 : Cond.fieldLink "KnockPipesModel" 18 "KnockPipesModel" "by" "[I" ∈ kp_wl := kp_t4 (i := 64) rfl rfl
theorem q4_65 : Cond.fieldLink "KnockPipesModel" 21 "KnockPipesModel" "truths" "[Z" ∈ kp_wl := kp_t4 (i := 65) rfl rfl
theorem q4_66 : Cond.fieldLink "KnockPipesModel" 143 "KnockPipesModel" "grows" "I" ∈ kp_wl := kp_t4 (i := 66) rfl rfl
theorem q4_67 : Cond.fieldLink "KnockPipesModel" 146 "KnockPipesModel" "holds" "I" ∈ kp_wl := kp_t4 (i := 67) rfl rfl
theorem q4_68 : Cond.fieldLink "KnockPipesModel" 149 "KnockPipesModel" "anyHolds" "Z" ∈ kp_wl := kp_t4 (i := 68) rfl rfl
theorem q4_69 : Cond.fieldLink "KnockPipesModel" 25 "KnockPipesModel" "warmths" "[I" ∈ kp_wl := kp_t4 (i := 69) rfl rfl
theorem q4_70 : Cond.fieldLink "KnockPipesModel" 28 "KnockPipesModel" "beats" "[I" ∈ kp_wl := kp_t4 (i := 70) rfl rfl
theorem q4_71 : Cond.fieldLink "KnockPipesModel" 155 "KnockPipesModel" "isQuietDay" "Z" ∈ kp_wl := kp_t4 (i := 71) rfl rfl
theorem q4_72 : Cond.fieldLink "KnockPipesModel" 152 "KnockPipesModel" "late" "I" ∈ kp_wl := kp_t4 (i := 72) rfl rfl
theorem q4_73 : Cond.fieldLink "KnockPipesModel" 214 "KnockPipesModel" "easing" "I" ∈ kp_wl := kp_t4 (i := 73) rfl rfl
theorem q4_74 : Cond.fieldLink "KnockPipesModel" 31 "KnockPipesModel" "heardThere" "[I" ∈ kp_wl := kp_t4 (i := 74) rfl rfl
theorem q4_75 : Cond.fieldLink "KnockPipesModel" 34 "KnockPipesModel" "heardIn" "[I" ∈ kp_wl := kp_t4 (i := 75) rfl rfl
theorem q4_76 : Cond.fieldLink "KnockPipesModel" 37 "KnockPipesModel" "bodies" "[I" ∈ kp_wl := kp_t4 (i := 76) rfl rfl
theorem q4_77 : Cond.fieldLink "KnockPipesModel" 253 "KnockPipesModel" "ran" "I" ∈ kp_wl := kp_t4 (i := 77) rfl rfl
theorem q4_78 : Cond.fieldLink "KnockPipesModel" 262 "KnockPipesModel" "kind" "I" ∈ kp_wl := kp_t4 (i := 78) rfl rfl
theorem q4_79 : Cond.fieldLink "KnockPipesModel" 259 "KnockPipesModel" "number" "I" ∈ kp_wl := kp_t4 (i := 79) rfl rfl
theorem q4_80 : Cond.fieldLink "KnockPipesModel" 274 "KnockPipesModel" "tellsV" "I" ∈ kp_wl := kp_t4 (i := 80) rfl rfl
theorem q4_81 : Cond.lays "KnockPipesModel" "KnockPipesModel" "thrown" "I" ∈ kp_wl := kp_t4 (i := 81) rfl rfl
theorem q4_83 : Cond.laysFinal "KnockPipesModel" "KnockPipesModel" "s" "[I" ∈ kp_wl := kp_t4 (i := 83) rfl rfl
theorem q4_85 : Cond.laysFinal "KnockPipesModel" "KnockPipesModel" "image" "[I" ∈ kp_wl := kp_t4 (i := 85) rfl rfl
theorem q4_87 : Cond.lays "KnockPipesModel" "KnockPipesModel" "hasImage" "Z" ∈ kp_wl := kp_t4 (i := 87) rfl rfl
theorem q4_89 : Cond.lays "KnockPipesModel" "KnockPipesModel" "act" "I" ∈ kp_wl := kp_t4 (i := 89) rfl rfl
theorem q4_91 : Cond.lays "KnockPipesModel" "KnockPipesModel" "spot" "I" ∈ kp_wl := kp_t4 (i := 91) rfl rfl
theorem q4_93 : Cond.lays "KnockPipesModel" "KnockPipesModel" "end" "I" ∈ kp_wl := kp_t4 (i := 93) rfl rfl
theorem q4_95 : Cond.lays "KnockPipesModel" "KnockPipesModel" "isWrong" "Z" ∈ kp_wl := kp_t4 (i := 95) rfl rfl
theorem q4_97 : Cond.lays "KnockPipesModel" "KnockPipesModel" "open" "I" ∈ kp_wl := kp_t4 (i := 97) rfl rfl
theorem q4_99 : Cond.laysFinal "KnockPipesModel" "KnockPipesModel" "by" "[I" ∈ kp_wl := kp_t4 (i := 99) rfl rfl
theorem q4_101 : Cond.laysFinal "KnockPipesModel" "KnockPipesModel" "truths" "[Z" ∈ kp_wl := kp_t4 (i := 101) rfl rfl
theorem q4_103 : Cond.lays "KnockPipesModel" "KnockPipesModel" "grows" "I" ∈ kp_wl := kp_t4 (i := 103) rfl rfl
theorem q4_105 : Cond.lays "KnockPipesModel" "KnockPipesModel" "holds" "I" ∈ kp_wl := kp_t4 (i := 105) rfl rfl
theorem q4_107 : Cond.lays "KnockPipesModel" "KnockPipesModel" "anyHolds" "Z" ∈ kp_wl := kp_t4 (i := 107) rfl rfl
theorem q4_109 : Cond.laysFinal "KnockPipesModel" "KnockPipesModel" "warmths" "[I" ∈ kp_wl := kp_t4 (i := 109) rfl rfl
theorem q4_111 : Cond.laysFinal "KnockPipesModel" "KnockPipesModel" "beats" "[I" ∈ kp_wl := kp_t4 (i := 111) rfl rfl
theorem q4_113 : Cond.lays "KnockPipesModel" "KnockPipesModel" "isQuietDay" "Z" ∈ kp_wl := kp_t4 (i := 113) rfl rfl
theorem q4_115 : Cond.lays "KnockPipesModel" "KnockPipesModel" "late" "I" ∈ kp_wl := kp_t4 (i := 115) rfl rfl
theorem q4_117 : Cond.lays "KnockPipesModel" "KnockPipesModel" "easing" "I" ∈ kp_wl := kp_t4 (i := 117) rfl rfl
theorem q4_119 : Cond.laysFinal "KnockPipesModel" "KnockPipesModel" "heardThere" "[I" ∈ kp_wl := kp_t4 (i := 119) rfl rfl
theorem q4_121 : Cond.laysFinal "KnockPipesModel" "KnockPipesModel" "heardIn" "[I" ∈ kp_wl := kp_t4 (i := 121) rfl rfl
theorem q4_123 : Cond.laysFinal "KnockPipesModel" "KnockPipesModel" "bodies" "[I" ∈ kp_wl := kp_t4 (i := 123) rfl rfl
theorem q4_125 : Cond.lays "KnockPipesModel" "KnockPipesModel" "ran" "I" ∈ kp_wl := kp_t4 (i := 125) rfl rfl
theorem q4_127 : Cond.lays "KnockPipesModel" "KnockPipesModel" "kind" "I" ∈ kp_wl := kp_t4 (i := 127) rfl rfl
theorem q4_129 : Cond.lays "KnockPipesModel" "KnockPipesModel" "number" "I" ∈ kp_wl := kp_t4 (i := 129) rfl rfl
theorem q4_131 : Cond.lays "KnockPipesModel" "KnockPipesModel" "tellsV" "I" ∈ kp_wl := kp_t4 (i := 131) rfl rfl
theorem q4_134 : Cond.methodLink "KnockPipesLaw" 19 yX10_day ∈ kp_wl := kp_t4 (i := 134) rfl rfl
theorem q4_135 : Cond.instanceMethod yX10_day ∈ kp_wl := kp_t4 (i := 135) rfl rfl
theorem q4_136 : Cond.selects "KnockPipesModel" yX10_day yX10_day ∈ kp_wl := kp_t4 (i := 136) rfl rfl
theorem q4_137 : Cond.code yX10_day cX10_day 7 (some .int) ∈ kp_wl := kp_t4 (i := 137) rfl rfl
theorem q4_138 : Cond.methodLink "KnockPipesModel" 44 yX10_in ∈ kp_wl := kp_t4 (i := 138) rfl rfl
theorem q4_139 : Cond.static yX10_in ∈ kp_wl := kp_t4 (i := 139) rfl rfl
theorem q4_140 : Cond.code yX10_in cX10_in 3 (some .boolean) ∈ kp_wl := kp_t4 (i := 140) rfl rfl
theorem q4_141 : Cond.constantLong "KnockPipesModel" 48 (1099511627776) ∈ kp_wl := kp_t4 (i := 141) rfl rfl
theorem q4_142 : Cond.methodLink "KnockPipesLaw" 24 yX10_feed ∈ kp_wl := kp_t4 (i := 142) rfl rfl
theorem q4_143 : Cond.instanceMethod yX10_feed ∈ kp_wl := kp_t4 (i := 143) rfl rfl
theorem q4_144 : Cond.selects "KnockPipesModel" yX10_feed yX10_feed ∈ kp_wl := kp_t4 (i := 144) rfl rfl
theorem q4_145 : Cond.code yX10_feed cX10_feed 5 (some .int) ∈ kp_wl := kp_t4 (i := 145) rfl rfl
theorem q4_146 : Cond.constantLong "KnockPipesModel" 50 (255) ∈ kp_wl := kp_t4 (i := 146) rfl rfl
theorem q4_147 : Cond.methodLink "KnockPipesLaw" 29 yX10_house ∈ kp_wl := kp_t4 (i := 147) rfl rfl
theorem q4_148 : Cond.instanceMethod yX10_house ∈ kp_wl := kp_t4 (i := 148) rfl rfl
theorem q4_149 : Cond.selects "KnockPipesModel" yX10_house yX10_house ∈ kp_wl := kp_t4 (i := 149) rfl rfl
theorem q4_150 : Cond.code yX10_house cX10_house 2 (some .int) ∈ kp_wl := kp_t4 (i := 150) rfl rfl
theorem q4_151 : Cond.methodLink "KnockPipesModel" 136 yX10_clauseHere ∈ kp_wl := kp_t4 (i := 151) rfl rfl
theorem q4_153 : Cond.instanceMethod yX10_clauseHere ∈ kp_wl := kp_t4 (i := 153) rfl rfl
theorem q4_154 : Cond.code yX10_clauseHere cX10_clauseHere 1 none ∈ kp_wl := kp_t4 (i := 154) rfl rfl
theorem q4_155 : Cond.methodLink "KnockPipesModel" 62 yX10_here ∈ kp_wl := kp_t4 (i := 155) rfl rfl
theorem q4_157 : Cond.instanceMethod yX10_here ∈ kp_wl := kp_t4 (i := 157) rfl rfl
theorem q4_158 : Cond.code yX10_here cX10_here 1 (some .int) ∈ kp_wl := kp_t4 (i := 158) rfl rfl
theorem q4_160 : Cond.methodLink "KnockPipesModel" 114 yX10_much ∈ kp_wl := kp_t4 (i := 160) rfl rfl
theorem q4_162 : Cond.instanceMethod yX10_much ∈ kp_wl := kp_t4 (i := 162) rfl rfl
theorem q4_163 : Cond.code yX10_much cX10_much 4 none ∈ kp_wl := kp_t4 (i := 163) rfl rfl
theorem q4_164 : Cond.methodLink "KnockPipesModel" 108 yX10_spells ∈ kp_wl := kp_t4 (i := 164) rfl rfl
theorem q4_166 : Cond.instanceMethod yX10_spells ∈ kp_wl := kp_t4 (i := 166) rfl rfl
theorem q4_167 : Cond.code yX10_spells cX10_spells 3 none ∈ kp_wl := kp_t4 (i := 167) rfl rfl
theorem q4_168 : Cond.methodLink "KnockPipesModel" 66 yJ0_length_8abf5 ∈ kp_wl := kp_t4 (i := 168) rfl rfl
theorem q4_169 : Cond.methodLink "KnockPipesModel" 71 yJ0_charAt_5068e ∈ kp_wl := kp_t4 (i := 169) rfl rfl
theorem q4_170 : Cond.methodLink "KnockPipesModel" 75 yX10_must ∈ kp_wl := kp_t4 (i := 170) rfl rfl
theorem q4_172 : Cond.instanceMethod yX10_must ∈ kp_wl := kp_t4 (i := 172) rfl rfl
theorem q4_173 : Cond.code yX10_must cX10_must 2 none ∈ kp_wl := kp_t4 (i := 173) rfl rfl
theorem q4_174 : Cond.methodLink "KnockPipesModel" 102 yX10_figures ∈ kp_wl := kp_t4 (i := 174) rfl rfl
theorem q4_176 : Cond.instanceMethod yX10_figures ∈ kp_wl := kp_t4 (i := 176) rfl rfl
theorem q4_177 : Cond.code yX10_figures cX10_figures 3 (some .int) ∈ kp_wl := kp_t4 (i := 177) rfl rfl
theorem q4_178 : Cond.methodLink "KnockPipesModel" 91 yX10_some ∈ kp_wl := kp_t4 (i := 178) rfl rfl
theorem q4_180 : Cond.instanceMethod yX10_some ∈ kp_wl := kp_t4 (i := 180) rfl rfl
theorem q4_181 : Cond.code yX10_some cX10_some 1 none ∈ kp_wl := kp_t4 (i := 181) rfl rfl
theorem q4_182 : Cond.methodLink "KnockPipesModel" 105 yX10_every ∈ kp_wl := kp_t4 (i := 182) rfl rfl
theorem q4_184 : Cond.instanceMethod yX10_every ∈ kp_wl := kp_t4 (i := 184) rfl rfl
theorem q4_185 : Cond.code yX10_every cX10_every 1 none ∈ kp_wl := kp_t4 (i := 185) rfl rfl
theorem q4_186 : Cond.methodLink "KnockPipesModel" 85 yX10_factor ∈ kp_wl := kp_t4 (i := 186) rfl rfl
theorem q4_188 : Cond.instanceMethod yX10_factor ∈ kp_wl := kp_t4 (i := 188) rfl rfl
theorem q4_189 : Cond.code yX10_factor cX10_factor 5 none ∈ kp_wl := kp_t4 (i := 189) rfl rfl
theorem q4_190 : Cond.methodLink "KnockPipesModel" 88 yX10_emits ∈ kp_wl := kp_t4 (i := 190) rfl rfl
theorem q4_192 : Cond.instanceMethod yX10_emits ∈ kp_wl := kp_t4 (i := 192) rfl rfl
theorem q4_193 : Cond.code yX10_emits cX10_emits 2 none ∈ kp_wl := kp_t4 (i := 193) rfl rfl
theorem q4_195 : Cond.methodLink "KnockPipesModel" 96 yX10_among ∈ kp_wl := kp_t4 (i := 195) rfl rfl
theorem q4_197 : Cond.instanceMethod yX10_among ∈ kp_wl := kp_t4 (i := 197) rfl rfl
theorem q4_198 : Cond.code yX10_among cX10_among 3 (some .int) ∈ kp_wl := kp_t4 (i := 198) rfl rfl
theorem q4_200 : Cond.methodLink "KnockPipesModel" 125 yX10_clauseOfH ∈ kp_wl := kp_t4 (i := 200) rfl rfl
theorem q4_202 : Cond.instanceMethod yX10_clauseOfH ∈ kp_wl := kp_t4 (i := 202) rfl rfl
theorem q4_203 : Cond.code yX10_clauseOfH cX10_clauseOfH 1 none ∈ kp_wl := kp_t4 (i := 203) rfl rfl
theorem q4_206 : Cond.methodLink "KnockPipesModel" 120 yX10_tellsHere ∈ kp_wl := kp_t4 (i := 206) rfl rfl
theorem q4_208 : Cond.instanceMethod yX10_tellsHere ∈ kp_wl := kp_t4 (i := 208) rfl rfl
theorem q4_209 : Cond.code yX10_tellsHere cX10_tellsHere 4 none ∈ kp_wl := kp_t4 (i := 209) rfl rfl
theorem q4_214 : Cond.methodLink "KnockPipesLaw" 34 yX10_told ∈ kp_wl := kp_t4 (i := 214) rfl rfl
theorem q4_215 : Cond.instanceMethod yX10_told ∈ kp_wl := kp_t4 (i := 215) rfl rfl
theorem q4_216 : Cond.selects "KnockPipesModel" yX10_told yX10_told ∈ kp_wl := kp_t4 (i := 216) rfl rfl
theorem q4_217 : Cond.code yX10_told cX10_told 2 (some .int) ∈ kp_wl := kp_t4 (i := 217) rfl rfl
theorem q4_218 : Cond.methodLink "KnockPipesModel" 139 yX10_tellsOf ∈ kp_wl := kp_t4 (i := 218) rfl rfl
theorem q4_220 : Cond.instanceMethod yX10_tellsOf ∈ kp_wl := kp_t4 (i := 220) rfl rfl
theorem q4_221 : Cond.code yX10_tellsOf cX10_tellsOf 3 (some .int) ∈ kp_wl := kp_t4 (i := 221) rfl rfl
theorem q4_222 : Cond.methodLink "KnockPipesLaw" 38 yX10_warmth ∈ kp_wl := kp_t4 (i := 222) rfl rfl
theorem q4_223 : Cond.instanceMethod yX10_warmth ∈ kp_wl := kp_t4 (i := 223) rfl rfl
theorem q4_224 : Cond.selects "KnockPipesModel" yX10_warmth yX10_warmth ∈ kp_wl := kp_t4 (i := 224) rfl rfl
theorem q4_225 : Cond.code yX10_warmth cX10_warmth 2 (some .int) ∈ kp_wl := kp_t4 (i := 225) rfl rfl
theorem q4_226 : Cond.methodLink "KnockPipesModel" 195 yX10_isMinute ∈ kp_wl := kp_t4 (i := 226) rfl rfl
theorem q4_227 : Cond.static yX10_isMinute ∈ kp_wl := kp_t4 (i := 227) rfl rfl
theorem q4_228 : Cond.code yX10_isMinute cX10_isMinute 1 (some .boolean) ∈ kp_wl := kp_t4 (i := 228) rfl rfl
theorem q4_229 : Cond.methodLink "KnockPipesModel" 189 yX10_warms ∈ kp_wl := kp_t4 (i := 229) rfl rfl
theorem q4_231 : Cond.instanceMethod yX10_warms ∈ kp_wl := kp_t4 (i := 231) rfl rfl
theorem q4_232 : Cond.code yX10_warms cX10_warms 3 none ∈ kp_wl := kp_t4 (i := 232) rfl rfl
theorem q4_233 : Cond.methodLink "KnockPipesModel" 158 yX10_isOn ∈ kp_wl := kp_t4 (i := 233) rfl rfl
theorem q4_235 : Cond.instanceMethod yX10_isOn ∈ kp_wl := kp_t4 (i := 235) rfl rfl
theorem q4_236 : Cond.code yX10_isOn cX10_isOn 4 (some .boolean) ∈ kp_wl := kp_t4 (i := 236) rfl rfl
theorem q4_237 : Cond.methodLink "KnockPipesModel" 162 yX10_told ∈ kp_wl := kp_t4 (i := 237) rfl rfl
theorem q4_238 : Cond.methodLink "KnockPipesLaw" 43 yX10_noise ∈ kp_wl := kp_t4 (i := 238) rfl rfl
theorem q4_239 : Cond.instanceMethod yX10_noise ∈ kp_wl := kp_t4 (i := 239) rfl rfl
theorem q5_0 : Cond.selects "KnockPipesModel" yX10_noise yX10_noise ∈ kp_wl := kp_t5 (i := 0) rfl rfl
theorem q5_1 : Cond.code yX10_noise cX10_noise 6 (some .int) ∈ kp_wl := kp_t5 (i := 1) rfl rfl
theorem q5_2 : Cond.methodLink "KnockPipesModel" 199 yX10_isPlace ∈ kp_wl := kp_t5 (i := 2) rfl rfl
theorem q5_3 : Cond.static yX10_isPlace ∈ kp_wl := kp_t5 (i := 3) rfl rfl
theorem q5_4 : Cond.code yX10_isPlace cX10_isPlace 1 (some .boolean) ∈ kp_wl := kp_t5 (i := 4) rfl rfl
theorem q5_5 : Cond.methodLink "KnockPipesLaw" 48 yX10_of ∈ kp_wl := kp_t5 (i := 5) rfl rfl
theorem q5_6 : Cond.instanceMethod yX10_of ∈ kp_wl := kp_t5 (i := 6) rfl rfl
theorem q5_7 : Cond.selects "KnockPipesModel" yX10_of yX10_of ∈ kp_wl := kp_t5 (i := 7) rfl rfl
theorem q5_8 : Cond.code yX10_of cX10_of 3 (some .int) ∈ kp_wl := kp_t5 (i := 8) rfl rfl
theorem q5_9 : Cond.methodLink "KnockPipesModel" 202 yX10_isNoise ∈ kp_wl := kp_t5 (i := 9) rfl rfl
theorem q5_11 : Cond.instanceMethod yX10_isNoise ∈ kp_wl := kp_t5 (i := 11) rfl rfl
theorem q5_12 : Cond.code yX10_isNoise cX10_isNoise 2 (some .boolean) ∈ kp_wl := kp_t5 (i := 12) rfl rfl
theorem q5_13 : Cond.methodLink "KnockPipesLaw" 53 yX10_still ∈ kp_wl := kp_t5 (i := 13) rfl rfl
theorem q5_14 : Cond.instanceMethod yX10_still ∈ kp_wl := kp_t5 (i := 14) rfl rfl
theorem q5_15 : Cond.selects "KnockPipesModel" yX10_still yX10_still ∈ kp_wl := kp_t5 (i := 15) rfl rfl
theorem q5_16 : Cond.code yX10_still cX10_still 4 (some .int) ∈ kp_wl := kp_t5 (i := 16) rfl rfl
theorem q5_17 : Cond.methodLink "KnockPipesLaw" 58 yX10_knocks ∈ kp_wl := kp_t5 (i := 17) rfl rfl
theorem q5_18 : Cond.instanceMethod yX10_knocks ∈ kp_wl := kp_t5 (i := 18) rfl rfl
theorem q5_19 : Cond.selects "KnockPipesModel" yX10_knocks yX10_knocks ∈ kp_wl := kp_t5 (i := 19) rfl rfl
theorem q5_20 : Cond.code yX10_knocks cX10_knocks 5 (some .int) ∈ kp_wl := kp_t5 (i := 20) rfl rfl
theorem q5_21 : Cond.methodLink "KnockPipesModel" 205 yX10_goes ∈ kp_wl := kp_t5 (i := 21) rfl rfl
theorem q5_23 : Cond.instanceMethod yX10_goes ∈ kp_wl := kp_t5 (i := 23) rfl rfl
theorem q5_24 : Cond.code yX10_goes cX10_goes 2 none ∈ kp_wl := kp_t5 (i := 24) rfl rfl
theorem q5_25 : Cond.methodLink "KnockPipesModel" 192 yX10_goesOf ∈ kp_wl := kp_t5 (i := 25) rfl rfl
theorem q5_27 : Cond.instanceMethod yX10_goesOf ∈ kp_wl := kp_t5 (i := 27) rfl rfl
theorem q5_28 : Cond.code yX10_goesOf cX10_goesOf 2 none ∈ kp_wl := kp_t5 (i := 28) rfl rfl
theorem q5_29 : Cond.methodLink "KnockPipesModel" 176 yX10_ticks ∈ kp_wl := kp_t5 (i := 29) rfl rfl
theorem q5_31 : Cond.instanceMethod yX10_ticks ∈ kp_wl := kp_t5 (i := 31) rfl rfl
theorem q5_32 : Cond.code yX10_ticks cX10_ticks 7 none ∈ kp_wl := kp_t5 (i := 32) rfl rfl
theorem q5_33 : Cond.methodLink "KnockPipesModel" 170 yX10_lengthOf ∈ kp_wl := kp_t5 (i := 33) rfl rfl
theorem q5_35 : Cond.instanceMethod yX10_lengthOf ∈ kp_wl := kp_t5 (i := 35) rfl rfl
theorem q5_36 : Cond.code yX10_lengthOf cX10_lengthOf 3 (some .int) ∈ kp_wl := kp_t5 (i := 36) rfl rfl
theorem q5_37 : Cond.methodLink "KnockPipesModel" 166 yX10_looksAt ∈ kp_wl := kp_t5 (i := 37) rfl rfl
theorem q5_39 : Cond.instanceMethod yX10_looksAt ∈ kp_wl := kp_t5 (i := 39) rfl rfl
theorem q5_40 : Cond.code yX10_looksAt cX10_looksAt 11 none ∈ kp_wl := kp_t5 (i := 40) rfl rfl
theorem q5_41 : Cond.methodLink "KnockPipesModel" 173 yX10_size ∈ kp_wl := kp_t5 (i := 41) rfl rfl
theorem q5_42 : Cond.static yX10_size ∈ kp_wl := kp_t5 (i := 42) rfl rfl
theorem q5_43 : Cond.code yX10_size cX10_size 1 (some .int) ∈ kp_wl := kp_t5 (i := 43) rfl rfl
theorem q5_44 : Cond.methodLink "KnockPipesModel" 179 yX10_strikesBy ∈ kp_wl := kp_t5 (i := 44) rfl rfl
theorem q5_46 : Cond.instanceMethod yX10_strikesBy ∈ kp_wl := kp_t5 (i := 46) rfl rfl
theorem q5_47 : Cond.code yX10_strikesBy cX10_strikesBy 5 none ∈ kp_wl := kp_t5 (i := 47) rfl rfl
theorem q5_48 : Cond.methodLink "KnockPipesModel" 182 yX10_hums ∈ kp_wl := kp_t5 (i := 48) rfl rfl
theorem q5_50 : Cond.instanceMethod yX10_hums ∈ kp_wl := kp_t5 (i := 50) rfl rfl
theorem q5_51 : Cond.code yX10_hums cX10_hums 6 none ∈ kp_wl := kp_t5 (i := 51) rfl rfl
theorem q5_52 : Cond.methodLink "KnockPipesModel" 186 yX10_plainly ∈ kp_wl := kp_t5 (i := 52) rfl rfl
theorem q5_54 : Cond.instanceMethod yX10_plainly ∈ kp_wl := kp_t5 (i := 54) rfl rfl
theorem q5_55 : Cond.code yX10_plainly cX10_plainly 3 none ∈ kp_wl := kp_t5 (i := 55) rfl rfl
theorem q5_56 : Cond.methodLink "KnockPipesModel" 208 yX10_isStill ∈ kp_wl := kp_t5 (i := 56) rfl rfl
theorem q5_58 : Cond.instanceMethod yX10_isStill ∈ kp_wl := kp_t5 (i := 58) rfl rfl
theorem q5_59 : Cond.code yX10_isStill cX10_isStill 2 (some .boolean) ∈ kp_wl := kp_t5 (i := 59) rfl rfl
theorem q5_60 : Cond.methodLink "KnockPipesLaw" 62 yX10_loud ∈ kp_wl := kp_t5 (i := 60) rfl rfl
theorem q5_61 : Cond.instanceMethod yX10_loud ∈ kp_wl := kp_t5 (i := 61) rfl rfl
theorem q5_62 : Cond.selects "KnockPipesModel" yX10_loud yX10_loud ∈ kp_wl := kp_t5 (i := 62) rfl rfl
theorem q5_63 : Cond.code yX10_loud cX10_loud 4 (some .int) ∈ kp_wl := kp_t5 (i := 63) rfl rfl
theorem q5_64 : Cond.methodLink "KnockPipesModel" 217 yX10_loudOf ∈ kp_wl := kp_t5 (i := 64) rfl rfl
theorem q5_66 : Cond.instanceMethod yX10_loudOf ∈ kp_wl := kp_t5 (i := 66) rfl rfl
theorem q5_67 : Cond.code yX10_loudOf cX10_loudOf 9 (some .int) ∈ kp_wl := kp_t5 (i := 67) rfl rfl
theorem q5_68 : Cond.methodLink "KnockPipesModel" 211 yX10_isStruck ∈ kp_wl := kp_t5 (i := 68) rfl rfl
theorem q5_70 : Cond.instanceMethod yX10_isStruck ∈ kp_wl := kp_t5 (i := 70) rfl rfl
theorem q5_71 : Cond.code yX10_isStruck cX10_isStruck 2 (some .boolean) ∈ kp_wl := kp_t5 (i := 71) rfl rfl
theorem q5_72 : Cond.methodLink "KnockPipesLaw" 66 yX10_heard ∈ kp_wl := kp_t5 (i := 72) rfl rfl
theorem q5_73 : Cond.instanceMethod yX10_heard ∈ kp_wl := kp_t5 (i := 73) rfl rfl
theorem q5_74 : Cond.selects "KnockPipesModel" yX10_heard yX10_heard ∈ kp_wl := kp_t5 (i := 74) rfl rfl
theorem q5_75 : Cond.code yX10_heard cX10_heard 3 (some .int) ∈ kp_wl := kp_t5 (i := 75) rfl rfl
theorem q5_76 : Cond.methodLink "KnockPipesModel" 224 yX10_moving ∈ kp_wl := kp_t5 (i := 76) rfl rfl
theorem q5_78 : Cond.instanceMethod yX10_moving ∈ kp_wl := kp_t5 (i := 78) rfl rfl
theorem q5_79 : Cond.code yX10_moving cX10_moving 3 (some .int) ∈ kp_wl := kp_t5 (i := 79) rfl rfl
theorem q5_80 : Cond.methodLink "KnockPipesModel" 227 yX10_heardAll ∈ kp_wl := kp_t5 (i := 80) rfl rfl
theorem q5_82 : Cond.instanceMethod yX10_heardAll ∈ kp_wl := kp_t5 (i := 82) rfl rfl
theorem q5_83 : Cond.code yX10_heardAll cX10_heardAll 5 (some .int) ∈ kp_wl := kp_t5 (i := 83) rfl rfl
theorem q5_84 : Cond.methodLink "KnockPipesModel" 221 yX10_heardOf ∈ kp_wl := kp_t5 (i := 84) rfl rfl
theorem q5_86 : Cond.instanceMethod yX10_heardOf ∈ kp_wl := kp_t5 (i := 86) rfl rfl
theorem q5_87 : Cond.code yX10_heardOf cX10_heardOf 7 (some .int) ∈ kp_wl := kp_t5 (i := 87) rfl rfl
theorem q5_88 : Cond.methodLink "KnockPipesLaw" 70 yX10_seems ∈ kp_wl := kp_t5 (i := 88) rfl rfl
theorem q5_89 : Cond.instanceMethod yX10_seems ∈ kp_wl := kp_t5 (i := 89) rfl rfl
theorem q5_90 : Cond.selects "KnockPipesModel" yX10_seems yX10_seems ∈ kp_wl := kp_t5 (i := 90) rfl rfl
theorem q5_91 : Cond.code yX10_seems cX10_seems 8 (some .int) ∈ kp_wl := kp_t5 (i := 91) rfl rfl
theorem q5_92 : Cond.methodLink "KnockPipesLaw" 74 yX10_note ∈ kp_wl := kp_t5 (i := 92) rfl rfl
theorem q5_93 : Cond.instanceMethod yX10_note ∈ kp_wl := kp_t5 (i := 93) rfl rfl
theorem q5_94 : Cond.selects "KnockPipesModel" yX10_note yX10_note ∈ kp_wl := kp_t5 (i := 94) rfl rfl
theorem q5_95 : Cond.code yX10_note cX10_note 4 (some .int) ∈ kp_wl := kp_t5 (i := 95) rfl rfl
theorem q5_96 : Cond.methodLink "KnockPipesLaw" 78 yX10_clear ∈ kp_wl := kp_t5 (i := 96) rfl rfl
theorem q5_97 : Cond.instanceMethod yX10_clear ∈ kp_wl := kp_t5 (i := 97) rfl rfl
theorem q5_98 : Cond.selects "KnockPipesModel" yX10_clear yX10_clear ∈ kp_wl := kp_t5 (i := 98) rfl rfl
theorem q5_99 : Cond.code yX10_clear cX10_clear 2 (some .int) ∈ kp_wl := kp_t5 (i := 99) rfl rfl
theorem q5_100 : Cond.methodLink "KnockPipesLaw" 82 yX10_fits ∈ kp_wl := kp_t5 (i := 100) rfl rfl
theorem q5_101 : Cond.instanceMethod yX10_fits ∈ kp_wl := kp_t5 (i := 101) rfl rfl
theorem q5_102 : Cond.selects "KnockPipesModel" yX10_fits yX10_fits ∈ kp_wl := kp_t5 (i := 102) rfl rfl
theorem q5_103 : Cond.code yX10_fits cX10_fits 2 (some .int) ∈ kp_wl := kp_t5 (i := 103) rfl rfl
theorem q5_104 : Cond.methodLink "KnockPipesModel" 230 yX10_fitsOf ∈ kp_wl := kp_t5 (i := 104) rfl rfl
theorem q5_106 : Cond.instanceMethod yX10_fitsOf ∈ kp_wl := kp_t5 (i := 106) rfl rfl
theorem q5_107 : Cond.code yX10_fitsOf cX10_fitsOf 4 (some .int) ∈ kp_wl := kp_t5 (i := 107) rfl rfl
theorem q5_108 : Cond.methodLink "KnockPipesLaw" 86 yX10_odds ∈ kp_wl := kp_t5 (i := 108) rfl rfl
theorem q5_109 : Cond.instanceMethod yX10_odds ∈ kp_wl := kp_t5 (i := 109) rfl rfl
theorem q5_110 : Cond.selects "KnockPipesModel" yX10_odds yX10_odds ∈ kp_wl := kp_t5 (i := 110) rfl rfl
theorem q5_111 : Cond.code yX10_odds cX10_odds 5 (some .int) ∈ kp_wl := kp_t5 (i := 111) rfl rfl
theorem q5_112 : Cond.methodLink "KnockPipesModel" 233 yX10_count1 ∈ kp_wl := kp_t5 (i := 112) rfl rfl
theorem q5_113 : Cond.static yX10_count1 ∈ kp_wl := kp_t5 (i := 113) rfl rfl
theorem q5_114 : Cond.code yX10_count1 cX10_count1 3 (some .int) ∈ kp_wl := kp_t5 (i := 114) rfl rfl
theorem q5_115 : Cond.methodLink "KnockPipesModel" 236 yX10_divisor ∈ kp_wl := kp_t5 (i := 115) rfl rfl
theorem q5_116 : Cond.static yX10_divisor ∈ kp_wl := kp_t5 (i := 116) rfl rfl
theorem q5_117 : Cond.code yX10_divisor cX10_divisor 5 (some .int) ∈ kp_wl := kp_t5 (i := 117) rfl rfl
theorem q5_118 : Cond.methodLink "KnockPipesLaw" 90 yX10_which ∈ kp_wl := kp_t5 (i := 118) rfl rfl
theorem q5_119 : Cond.instanceMethod yX10_which ∈ kp_wl := kp_t5 (i := 119) rfl rfl
theorem q5_120 : Cond.selects "KnockPipesModel" yX10_which yX10_which ∈ kp_wl := kp_t5 (i := 120) rfl rfl
theorem q5_121 : Cond.code yX10_which cX10_which 2 (some .int) ∈ kp_wl := kp_t5 (i := 121) rfl rfl
theorem q5_122 : Cond.methodLink "KnockPipesModel" 242 yX10_mostFitting ∈ kp_wl := kp_t5 (i := 122) rfl rfl
theorem q5_124 : Cond.instanceMethod yX10_mostFitting ∈ kp_wl := kp_t5 (i := 124) rfl rfl
theorem q5_125 : Cond.code yX10_mostFitting cX10_mostFitting 5 (some .int) ∈ kp_wl := kp_t5 (i := 125) rfl rfl
theorem q5_126 : Cond.methodLink "KnockPipesModel" 245 yX10_allFitting ∈ kp_wl := kp_t5 (i := 126) rfl rfl
theorem q5_128 : Cond.instanceMethod yX10_allFitting ∈ kp_wl := kp_t5 (i := 128) rfl rfl
theorem q5_129 : Cond.code yX10_allFitting cX10_allFitting 3 (some .int) ∈ kp_wl := kp_t5 (i := 129) rfl rfl
theorem q5_130 : Cond.methodLink "KnockPipesModel" 248 yX10_worst ∈ kp_wl := kp_t5 (i := 130) rfl rfl
theorem q5_132 : Cond.instanceMethod yX10_worst ∈ kp_wl := kp_t5 (i := 132) rfl rfl
theorem q5_133 : Cond.code yX10_worst cX10_worst 5 (some .int) ∈ kp_wl := kp_t5 (i := 133) rfl rfl
theorem q5_134 : Cond.methodLink "KnockPipesModel" 239 yX10_harmOf ∈ kp_wl := kp_t5 (i := 134) rfl rfl
theorem q5_136 : Cond.instanceMethod yX10_harmOf ∈ kp_wl := kp_t5 (i := 136) rfl rfl
theorem q5_137 : Cond.code yX10_harmOf cX10_harmOf 4 (some .int) ∈ kp_wl := kp_t5 (i := 137) rfl rfl
theorem q5_138 : Cond.methodLink "KnockPipesLaw" 94 yX10_next ∈ kp_wl := kp_t5 (i := 138) rfl rfl
theorem q5_139 : Cond.instanceMethod yX10_next ∈ kp_wl := kp_t5 (i := 139) rfl rfl
theorem q5_140 : Cond.selects "KnockPipesModel" yX10_next yX10_next ∈ kp_wl := kp_t5 (i := 140) rfl rfl
theorem q5_141 : Cond.code yX10_next cX10_next 9 (some .int) ∈ kp_wl := kp_t5 (i := 141) rfl rfl
theorem q5_142 : Cond.methodLink "KnockPipesLaw" 98 yX10_least ∈ kp_wl := kp_t5 (i := 142) rfl rfl
theorem q5_143 : Cond.instanceMethod yX10_least ∈ kp_wl := kp_t5 (i := 143) rfl rfl
theorem q5_144 : Cond.selects "KnockPipesModel" yX10_least yX10_least ∈ kp_wl := kp_t5 (i := 144) rfl rfl
theorem q5_145 : Cond.code yX10_least cX10_least 8 (some .int) ∈ kp_wl := kp_t5 (i := 145) rfl rfl
theorem q5_146 : Cond.methodLink "KnockPipesLaw" 102 yX10_eased ∈ kp_wl := kp_t5 (i := 146) rfl rfl
theorem q5_147 : Cond.instanceMethod yX10_eased ∈ kp_wl := kp_t5 (i := 147) rfl rfl
theorem q5_148 : Cond.selects "KnockPipesModel" yX10_eased yX10_eased ∈ kp_wl := kp_t5 (i := 148) rfl rfl
theorem q5_149 : Cond.code yX10_eased cX10_eased 5 (some .int) ∈ kp_wl := kp_t5 (i := 149) rfl rfl
theorem q5_150 : Cond.methodLink "KnockPipesLaw" 107 yX10_parted ∈ kp_wl := kp_t5 (i := 150) rfl rfl
theorem q5_151 : Cond.instanceMethod yX10_parted ∈ kp_wl := kp_t5 (i := 151) rfl rfl
theorem q5_152 : Cond.selects "KnockPipesModel" yX10_parted yX10_parted ∈ kp_wl := kp_t5 (i := 152) rfl rfl
theorem q5_153 : Cond.code yX10_parted cX10_parted 6 (some .long) ∈ kp_wl := kp_t5 (i := 153) rfl rfl
theorem q5_154 : Cond.constantLong "KnockPipesModel" 251 (-9223372036854775808) ∈ kp_wl := kp_t5 (i := 154) rfl rfl
theorem q5_155 : Cond.methodLink "KnockPipesLaw" 111 yX10_quiet ∈ kp_wl := kp_t5 (i := 155) rfl rfl
theorem q5_156 : Cond.instanceMethod yX10_quiet ∈ kp_wl := kp_t5 (i := 156) rfl rfl
theorem q5_157 : Cond.selects "KnockPipesModel" yX10_quiet yX10_quiet ∈ kp_wl := kp_t5 (i := 157) rfl rfl
theorem q5_158 : Cond.code yX10_quiet cX10_quiet 5 (some .int) ∈ kp_wl := kp_t5 (i := 158) rfl rfl
theorem q5_159 : Cond.methodLink "KnockPipesLaw" 115 yX10_moved ∈ kp_wl := kp_t5 (i := 159) rfl rfl
theorem q5_160 : Cond.instanceMethod yX10_moved ∈ kp_wl := kp_t5 (i := 160) rfl rfl
theorem q5_161 : Cond.selects "KnockPipesModel" yX10_moved yX10_moved ∈ kp_wl := kp_t5 (i := 161) rfl rfl
theorem q5_162 : Cond.code yX10_moved cX10_moved 8 (some .int) ∈ kp_wl := kp_t5 (i := 162) rfl rfl
theorem q5_163 : Cond.methodLink "KnockPipesLaw" 119 yX10_older ∈ kp_wl := kp_t5 (i := 163) rfl rfl
theorem q5_164 : Cond.instanceMethod yX10_older ∈ kp_wl := kp_t5 (i := 164) rfl rfl
theorem q5_165 : Cond.selects "KnockPipesModel" yX10_older yX10_older ∈ kp_wl := kp_t5 (i := 165) rfl rfl
theorem q5_166 : Cond.code yX10_older cX10_older 4 (some .int) ∈ kp_wl := kp_t5 (i := 166) rfl rfl
theorem q5_167 : Cond.methodLink "KnockPipesLaw" 123 yX10_harm ∈ kp_wl := kp_t5 (i := 167) rfl rfl
theorem q5_168 : Cond.instanceMethod yX10_harm ∈ kp_wl := kp_t5 (i := 168) rfl rfl
theorem q5_169 : Cond.selects "KnockPipesModel" yX10_harm yX10_harm ∈ kp_wl := kp_t5 (i := 169) rfl rfl
theorem q5_170 : Cond.code yX10_harm cX10_harm 2 (some .int) ∈ kp_wl := kp_t5 (i := 170) rfl rfl
theorem q5_171 : Cond.methodLink "KnockPipesLaw" 127 yX10_act ∈ kp_wl := kp_t5 (i := 171) rfl rfl
theorem q5_172 : Cond.instanceMethod yX10_act ∈ kp_wl := kp_t5 (i := 172) rfl rfl
theorem q5_173 : Cond.selects "KnockPipesModel" yX10_act yX10_act ∈ kp_wl := kp_t5 (i := 173) rfl rfl
theorem q5_174 : Cond.code yX10_act cX10_act 4 (some .int) ∈ kp_wl := kp_t5 (i := 174) rfl rfl
theorem q5_175 : Cond.methodLink "KnockPipesModel" 271 yX10_growsActs ∈ kp_wl := kp_t5 (i := 175) rfl rfl
theorem q5_177 : Cond.instanceMethod yX10_growsActs ∈ kp_wl := kp_t5 (i := 177) rfl rfl
theorem q5_178 : Cond.code yX10_growsActs cX10_growsActs 2 (some .int) ∈ kp_wl := kp_t5 (i := 178) rfl rfl
theorem q5_179 : Cond.methodLink "KnockPipesModel" 265 yX10_isUnder ∈ kp_wl := kp_t5 (i := 179) rfl rfl
theorem q5_180 : Cond.static yX10_isUnder ∈ kp_wl := kp_t5 (i := 180) rfl rfl
theorem q5_181 : Cond.code yX10_isUnder cX10_isUnder 2 (some .boolean) ∈ kp_wl := kp_t5 (i := 181) rfl rfl
theorem q5_182 : Cond.methodLink "KnockPipesModel" 256 yX10_runs ∈ kp_wl := kp_t5 (i := 182) rfl rfl
theorem q5_184 : Cond.instanceMethod yX10_runs ∈ kp_wl := kp_t5 (i := 184) rfl rfl
theorem q5_185 : Cond.code yX10_runs cX10_runs 2 none ∈ kp_wl := kp_t5 (i := 185) rfl rfl
theorem q5_186 : Cond.methodLink "KnockPipesModel" 268 yX10_plainGrows ∈ kp_wl := kp_t5 (i := 186) rfl rfl
theorem q5_188 : Cond.instanceMethod yX10_plainGrows ∈ kp_wl := kp_t5 (i := 188) rfl rfl
theorem q5_189 : Cond.code yX10_plainGrows cX10_plainGrows 2 (some .int) ∈ kp_wl := kp_t5 (i := 189) rfl rfl
theorem q5_190 : Cond.methodLink "KnockPipesModel" 280 yX10_strikesActs ∈ kp_wl := kp_t5 (i := 190) rfl rfl
theorem q5_192 : Cond.instanceMethod yX10_strikesActs ∈ kp_wl := kp_t5 (i := 192) rfl rfl
theorem q5_193 : Cond.code yX10_strikesActs cX10_strikesActs 2 (some .int) ∈ kp_wl := kp_t5 (i := 193) rfl rfl
theorem q5_194 : Cond.methodLink "KnockPipesModel" 277 yX10_plainStrikes ∈ kp_wl := kp_t5 (i := 194) rfl rfl
theorem q5_196 : Cond.instanceMethod yX10_plainStrikes ∈ kp_wl := kp_t5 (i := 196) rfl rfl
theorem q5_197 : Cond.code yX10_plainStrikes cX10_plainStrikes 2 (some .int) ∈ kp_wl := kp_t5 (i := 197) rfl rfl
theorem q5_198 : Cond.methodLink "KnockPipesModel" 286 yX10_tellsActs ∈ kp_wl := kp_t5 (i := 198) rfl rfl
theorem q5_200 : Cond.instanceMethod yX10_tellsActs ∈ kp_wl := kp_t5 (i := 200) rfl rfl
theorem q5_201 : Cond.code yX10_tellsActs cX10_tellsActs 3 (some .int) ∈ kp_wl := kp_t5 (i := 201) rfl rfl
theorem q5_202 : Cond.methodLink "KnockPipesModel" 283 yX10_plainTells ∈ kp_wl := kp_t5 (i := 202) rfl rfl
theorem q5_204 : Cond.instanceMethod yX10_plainTells ∈ kp_wl := kp_t5 (i := 204) rfl rfl
theorem q5_205 : Cond.code yX10_plainTells cX10_plainTells 2 (some .int) ∈ kp_wl := kp_t5 (i := 205) rfl rfl
theorem q5_206 : Cond.methodLink "KnockPipesLaw" 131 yX10_trace ∈ kp_wl := kp_t5 (i := 206) rfl rfl
theorem q5_207 : Cond.instanceMethod yX10_trace ∈ kp_wl := kp_t5 (i := 207) rfl rfl
theorem q5_208 : Cond.selects "KnockPipesModel" yX10_trace yX10_trace ∈ kp_wl := kp_t5 (i := 208) rfl rfl
theorem q5_209 : Cond.code yX10_trace cX10_trace 2 (some .int) ∈ kp_wl := kp_t5 (i := 209) rfl rfl
theorem q5_210 : Cond.methodLink "KnockPipesLaw" 135 yX10_as ∈ kp_wl := kp_t5 (i := 210) rfl rfl
theorem q5_211 : Cond.instanceMethod yX10_as ∈ kp_wl := kp_t5 (i := 211) rfl rfl
theorem q5_212 : Cond.selects "KnockPipesModel" yX10_as yX10_as ∈ kp_wl := kp_t5 (i := 212) rfl rfl
theorem q5_213 : Cond.code yX10_as cX10_as 3 (some .int) ∈ kp_wl := kp_t5 (i := 213) rfl rfl
theorem q5_214 : Cond.methodLink "KnockPipesLaw" 139 yX10_image ∈ kp_wl := kp_t5 (i := 214) rfl rfl
theorem q5_215 : Cond.instanceMethod yX10_image ∈ kp_wl := kp_t5 (i := 215) rfl rfl
theorem q5_216 : Cond.selects "KnockPipesModel" yX10_image yX10_image ∈ kp_wl := kp_t5 (i := 216) rfl rfl
theorem q5_217 : Cond.code yX10_image cX10_image 2 (some .int) ∈ kp_wl := kp_t5 (i := 217) rfl rfl
theorem q5_218 : Cond.methodLink "KnockPipesLaw" 143 yX10_undo ∈ kp_wl := kp_t5 (i := 218) rfl rfl
theorem q5_219 : Cond.instanceMethod yX10_undo ∈ kp_wl := kp_t5 (i := 219) rfl rfl
theorem q5_220 : Cond.selects "KnockPipesModel" yX10_undo yX10_undo ∈ kp_wl := kp_t5 (i := 220) rfl rfl
theorem q5_221 : Cond.code yX10_undo cX10_undo 2 (some .int) ∈ kp_wl := kp_t5 (i := 221) rfl rfl
theorem q5_222 : Cond.methodLink "KnockPipesLaw" 147 yX10_count ∈ kp_wl := kp_t5 (i := 222) rfl rfl
theorem q5_223 : Cond.instanceMethod yX10_count ∈ kp_wl := kp_t5 (i := 223) rfl rfl
theorem q5_224 : Cond.selects "KnockPipesModel" yX10_count yX10_count ∈ kp_wl := kp_t5 (i := 224) rfl rfl
theorem q5_225 : Cond.code yX10_count cX10_count 2 (some .int) ∈ kp_wl := kp_t5 (i := 225) rfl rfl
theorem q5_226 : Cond.constantLong "KnockPipesLaw" 13 (4294967295) ∈ kp_wl := kp_t5 (i := 226) rfl rfl
theorem q5_227 : Cond.fieldLink "java/lang/String" 15 "java/lang/String" "coder" "B" ∈ kp_wl := kp_t5 (i := 227) rfl rfl
theorem q5_228 : Cond.fieldLink "java/lang/String" 9 "java/lang/String" "value" "[B" ∈ kp_wl := kp_t5 (i := 228) rfl rfl
theorem q0_1_0 : Cond.selects "KnockPipes$Reader" yX5_clause yX5_clause ∈ kp_wl := kp_tp (List.mem_map.mpr ⟨(yX5_clause, 3), (List.mem_append_left _ (List.mem_of_getElem? (l := lw_privs_1) (i := 0) rfl)), rfl⟩) rfl
theorem q0_1_1 : Cond.selects "KnockPipes$Reader" yX5_word yX5_word ∈ kp_wl := kp_tp (List.mem_map.mpr ⟨(yX5_word, 3), (List.mem_append_left _ (List.mem_of_getElem? (l := lw_privs_1) (i := 1) rfl)), rfl⟩) rfl
theorem q0_1_2 : Cond.selects "KnockPipes$Reader" yX5_peek yX5_peek ∈ kp_wl := kp_tp (List.mem_map.mpr ⟨(yX5_peek, 3), (List.mem_append_left _ (List.mem_of_getElem? (l := lw_privs_1) (i := 2) rfl)), rfl⟩) rfl
theorem q0_1_3 : Cond.selects "KnockPipes$Reader" yX5_eats yX5_eats ∈ kp_wl := kp_tp (List.mem_map.mpr ⟨(yX5_eats, 3), (List.mem_append_left _ (List.mem_of_getElem? (l := lw_privs_1) (i := 3) rfl)), rfl⟩) rfl
theorem q0_1_4 : Cond.selects "KnockPipes$Reader" yX5_number yX5_number ∈ kp_wl := kp_tp (List.mem_map.mpr ⟨(yX5_number, 3), (List.mem_append_left _ (List.mem_of_getElem? (l := lw_privs_1) (i := 4) rfl)), rfl⟩) rfl
theorem q0_1_5 : Cond.selects "KnockPipes$Reader" yX5_digit yX5_digit ∈ kp_wl := kp_tp (List.mem_map.mpr ⟨(yX5_digit, 3), (List.mem_append_left _ (List.mem_of_getElem? (l := lw_privs_1) (i := 5) rfl)), rfl⟩) rfl
theorem q0_1_6 : Cond.selects "KnockPipes$Reader" yX5_either yX5_either ∈ kp_wl := kp_tp (List.mem_map.mpr ⟨(yX5_either, 3), (List.mem_append_left _ (List.mem_of_getElem? (l := lw_privs_1) (i := 6) rfl)), rfl⟩) rfl
theorem q0_1_7 : Cond.selects "KnockPipes$Reader" yX5_both yX5_both ∈ kp_wl := kp_tp (List.mem_map.mpr ⟨(yX5_both, 3), (List.mem_append_left _ (List.mem_of_getElem? (l := lw_privs_1) (i := 7) rfl)), rfl⟩) rfl
theorem q0_1_8 : Cond.selects "KnockPipes$Reader" yX5_factor yX5_factor ∈ kp_wl := kp_tp (List.mem_map.mpr ⟨(yX5_factor, 3), (List.mem_append_left _ (List.mem_of_getElem? (l := lw_privs_1) (i := 8) rfl)), rfl⟩) rfl
theorem q0_1_9 : Cond.selects "KnockPipes$Reader" yX5_test yX5_test ∈ kp_wl := kp_tp (List.mem_map.mpr ⟨(yX5_test, 3), (List.mem_append_left _ (List.mem_of_getElem? (l := lw_privs_1) (i := 9) rfl)), rfl⟩) rfl
theorem q0_1_10 : Cond.selects "KnockPipes$Reader" yX5_oneOf yX5_oneOf ∈ kp_wl := kp_tp (List.mem_map.mpr ⟨(yX5_oneOf, 3), (List.mem_append_left _ (List.mem_of_getElem? (l := lw_privs_1) (i := 10) rfl)), rfl⟩) rfl
theorem q0_1_11 : Cond.selects "KnockPipes" yX9_settle yX9_settle ∈ kp_wl := kp_tp (List.mem_map.mpr ⟨(yX9_settle, 8), (List.mem_append_left _ (List.mem_of_getElem? (l := lw_privs_1) (i := 11) rfl)), rfl⟩) rfl
theorem q0_1_12 : Cond.selects "KnockPipes$Sounds" yX6_holds yX6_holds ∈ kp_wl := kp_tp (List.mem_map.mpr ⟨(yX6_holds, 6), (List.mem_append_left _ (List.mem_of_getElem? (l := lw_privs_1) (i := 12) rfl)), rfl⟩) rfl
theorem q0_1_13 : Cond.selects "KnockPipes" yX9_ring yX9_ring ∈ kp_wl := kp_tp (List.mem_map.mpr ⟨(yX9_ring, 8), (List.mem_append_left _ (List.mem_of_getElem? (l := lw_privs_1) (i := 13) rfl)), rfl⟩) rfl
theorem q0_1_14 : Cond.selects "KnockPipes$Sounds" yX6_tick yX6_tick ∈ kp_wl := kp_tp (List.mem_map.mpr ⟨(yX6_tick, 6), (List.mem_append_left _ (List.mem_of_getElem? (l := lw_privs_1) (i := 14) rfl)), rfl⟩) rfl
theorem q0_1_15 : Cond.selects "KnockPipes$Sounds" yX6_mark yX6_mark ∈ kp_wl := kp_tp (List.mem_map.mpr ⟨(yX6_mark, 6), (List.mem_append_left _ (List.mem_of_getElem? (l := lw_privs_1) (i := 15) rfl)), rfl⟩) rfl
theorem q0_2_0 : Cond.selects "KnockPipes" yX9_loudOf yX9_loudOf ∈ kp_wl := kp_tp (List.mem_map.mpr ⟨(yX9_loudOf, 8), (List.mem_append_right _ (List.mem_append_left _ (List.mem_of_getElem? (l := lw_privs_2) (i := 0) rfl))), rfl⟩) rfl
theorem q0_2_1 : Cond.selects "KnockPipes" yX9_heardInDay yX9_heardInDay ∈ kp_wl := kp_tp (List.mem_map.mpr ⟨(yX9_heardInDay, 8), (List.mem_append_right _ (List.mem_append_left _ (List.mem_of_getElem? (l := lw_privs_2) (i := 1) rfl))), rfl⟩) rfl
theorem q0_2_2 : Cond.selects "KnockPipes" yX9_heardAt yX9_heardAt ∈ kp_wl := kp_tp (List.mem_map.mpr ⟨(yX9_heardAt, 8), (List.mem_append_right _ (List.mem_append_left _ (List.mem_of_getElem? (l := lw_privs_2) (i := 2) rfl))), rfl⟩) rfl
theorem q0_2_3 : Cond.selects "KnockPipes" yX9_heardAlone yX9_heardAlone ∈ kp_wl := kp_tp (List.mem_map.mpr ⟨(yX9_heardAlone, 8), (List.mem_append_right _ (List.mem_append_left _ (List.mem_of_getElem? (l := lw_privs_2) (i := 3) rfl))), rfl⟩) rfl
theorem q0_2_4 : Cond.selects "KnockPipes" yX9_heardOf yX9_heardOf ∈ kp_wl := kp_tp (List.mem_map.mpr ⟨(yX9_heardOf, 8), (List.mem_append_right _ (List.mem_append_left _ (List.mem_of_getElem? (l := lw_privs_2) (i := 4) rfl))), rfl⟩) rfl
theorem q0_2_5 : Cond.selects "KnockPipes" yX9_loudOfAll yX9_loudOfAll ∈ kp_wl := kp_tp (List.mem_map.mpr ⟨(yX9_loudOfAll, 8), (List.mem_append_right _ (List.mem_append_left _ (List.mem_of_getElem? (l := lw_privs_2) (i := 5) rfl))), rfl⟩) rfl
theorem q0_2_6 : Cond.selects "KnockPipes" yX9_fittingRows yX9_fittingRows ∈ kp_wl := kp_tp (List.mem_map.mpr ⟨(yX9_fittingRows, 8), (List.mem_append_right _ (List.mem_append_left _ (List.mem_of_getElem? (l := lw_privs_2) (i := 6) rfl))), rfl⟩) rfl
theorem q0_2_7 : Cond.selects "KnockPipes" yX9_mostFitting yX9_mostFitting ∈ kp_wl := kp_tp (List.mem_map.mpr ⟨(yX9_mostFitting, 8), (List.mem_append_right _ (List.mem_append_left _ (List.mem_of_getElem? (l := lw_privs_2) (i := 7) rfl))), rfl⟩) rfl
theorem q0_2_8 : Cond.selects "KnockPipes" yX9_allFitting yX9_allFitting ∈ kp_wl := kp_tp (List.mem_map.mpr ⟨(yX9_allFitting, 8), (List.mem_append_right _ (List.mem_append_left _ (List.mem_of_getElem? (l := lw_privs_2) (i := 8) rfl))), rfl⟩) rfl
theorem q0_2_9 : Cond.selects "KnockPipes" yX9_fitsAllRows yX9_fitsAllRows ∈ kp_wl := kp_tp (List.mem_map.mpr ⟨(yX9_fitsAllRows, 8), (List.mem_append_right _ (List.mem_append_left _ (List.mem_of_getElem? (l := lw_privs_2) (i := 9) rfl))), rfl⟩) rfl
theorem q0_2_10 : Cond.selects "KnockPipes" yX9_shareOf yX9_shareOf ∈ kp_wl := kp_tp (List.mem_map.mpr ⟨(yX9_shareOf, 8), (List.mem_append_right _ (List.mem_append_left _ (List.mem_of_getElem? (l := lw_privs_2) (i := 10) rfl))), rfl⟩) rfl
theorem q0_2_11 : Cond.selects "KnockPipes" yX9_worst yX9_worst ∈ kp_wl := kp_tp (List.mem_map.mpr ⟨(yX9_worst, 8), (List.mem_append_right _ (List.mem_append_left _ (List.mem_of_getElem? (l := lw_privs_2) (i := 11) rfl))), rfl⟩) rfl
theorem q0_2_12 : Cond.selects "KnockPipes" yX9_harmOf yX9_harmOf ∈ kp_wl := kp_tp (List.mem_map.mpr ⟨(yX9_harmOf, 8), (List.mem_append_right _ (List.mem_append_left _ (List.mem_of_getElem? (l := lw_privs_2) (i := 12) rfl))), rfl⟩) rfl
theorem q0_2_13 : Cond.selects "KnockPipes" yX9_mostAlike yX9_mostAlike ∈ kp_wl := kp_tp (List.mem_map.mpr ⟨(yX9_mostAlike, 8), (List.mem_append_right _ (List.mem_append_left _ (List.mem_of_getElem? (l := lw_privs_2) (i := 13) rfl))), rfl⟩) rfl
theorem q0_2_14 : Cond.selects "KnockPipes" yX9_heardInDayOf yX9_heardInDayOf ∈ kp_wl := kp_tp (List.mem_map.mpr ⟨(yX9_heardInDayOf, 8), (List.mem_append_right _ (List.mem_append_left _ (List.mem_of_getElem? (l := lw_privs_2) (i := 14) rfl))), rfl⟩) rfl
theorem q0_2_15 : Cond.selects "KnockPipes" yX9_rowsHeard yX9_rowsHeard ∈ kp_wl := kp_tp (List.mem_map.mpr ⟨(yX9_rowsHeard, 8), (List.mem_append_right _ (List.mem_append_left _ (List.mem_of_getElem? (l := lw_privs_2) (i := 15) rfl))), rfl⟩) rfl
theorem q0_3_0 : Cond.selects "KnockPipes$Acts" yX0_send yX0_send ∈ kp_wl := kp_tp (List.mem_map.mpr ⟨(yX0_send, 5), (List.mem_append_right _ (List.mem_append_right _ (List.mem_append_left _ (List.mem_of_getElem? (l := lw_privs_3) (i := 0) rfl)))), rfl⟩) rfl
theorem q0_3_1 : Cond.selects "KnockPipes$Acts" yX0_run yX0_run ∈ kp_wl := kp_tp (List.mem_map.mpr ⟨(yX0_run, 5), (List.mem_append_right _ (List.mem_append_right _ (List.mem_append_left _ (List.mem_of_getElem? (l := lw_privs_3) (i := 1) rfl)))), rfl⟩) rfl
theorem q0_3_2 : Cond.selects "KnockPipesModel" yX10_clauseHere yX10_clauseHere ∈ kp_wl := kp_tp (List.mem_map.mpr ⟨(yX10_clauseHere, 26), (List.mem_append_right _ (List.mem_append_right _ (List.mem_append_left _ (List.mem_of_getElem? (l := lw_privs_3) (i := 2) rfl)))), rfl⟩) rfl
theorem q0_3_3 : Cond.selects "KnockPipesModel" yX10_here yX10_here ∈ kp_wl := kp_tp (List.mem_map.mpr ⟨(yX10_here, 26), (List.mem_append_right _ (List.mem_append_right _ (List.mem_append_left _ (List.mem_of_getElem? (l := lw_privs_3) (i := 3) rfl)))), rfl⟩) rfl
theorem q0_3_4 : Cond.selects "KnockPipesModel" yX10_much yX10_much ∈ kp_wl := kp_tp (List.mem_map.mpr ⟨(yX10_much, 26), (List.mem_append_right _ (List.mem_append_right _ (List.mem_append_left _ (List.mem_of_getElem? (l := lw_privs_3) (i := 4) rfl)))), rfl⟩) rfl
theorem q0_3_5 : Cond.selects "KnockPipesModel" yX10_spells yX10_spells ∈ kp_wl := kp_tp (List.mem_map.mpr ⟨(yX10_spells, 26), (List.mem_append_right _ (List.mem_append_right _ (List.mem_append_left _ (List.mem_of_getElem? (l := lw_privs_3) (i := 5) rfl)))), rfl⟩) rfl
theorem q0_3_6 : Cond.selects "KnockPipesModel" yX10_must yX10_must ∈ kp_wl := kp_tp (List.mem_map.mpr ⟨(yX10_must, 26), (List.mem_append_right _ (List.mem_append_right _ (List.mem_append_left _ (List.mem_of_getElem? (l := lw_privs_3) (i := 6) rfl)))), rfl⟩) rfl
theorem q0_3_7 : Cond.selects "KnockPipesModel" yX10_figures yX10_figures ∈ kp_wl := kp_tp (List.mem_map.mpr ⟨(yX10_figures, 26), (List.mem_append_right _ (List.mem_append_right _ (List.mem_append_left _ (List.mem_of_getElem? (l := lw_privs_3) (i := 7) rfl)))), rfl⟩) rfl
theorem q0_3_8 : Cond.selects "KnockPipesModel" yX10_some yX10_some ∈ kp_wl := kp_tp (List.mem_map.mpr ⟨(yX10_some, 26), (List.mem_append_right _ (List.mem_append_right _ (List.mem_append_left _ (List.mem_of_getElem? (l := lw_privs_3) (i := 8) rfl)))), rfl⟩) rfl
theorem q0_3_9 : Cond.selects "KnockPipesModel" yX10_every yX10_every ∈ kp_wl := kp_tp (List.mem_map.mpr ⟨(yX10_every, 26), (List.mem_append_right _ (List.mem_append_right _ (List.mem_append_left _ (List.mem_of_getElem? (l := lw_privs_3) (i := 9) rfl)))), rfl⟩) rfl
theorem q0_3_10 : Cond.selects "KnockPipesModel" yX10_factor yX10_factor ∈ kp_wl := kp_tp (List.mem_map.mpr ⟨(yX10_factor, 26), (List.mem_append_right _ (List.mem_append_right _ (List.mem_append_left _ (List.mem_of_getElem? (l := lw_privs_3) (i := 10) rfl)))), rfl⟩) rfl
theorem q0_3_11 : Cond.selects "KnockPipesModel" yX10_emits yX10_emits ∈ kp_wl := kp_tp (List.mem_map.mpr ⟨(yX10_emits, 26), (List.mem_append_right _ (List.mem_append_right _ (List.mem_append_left _ (List.mem_of_getElem? (l := lw_privs_3) (i := 11) rfl)))), rfl⟩) rfl
theorem q0_3_12 : Cond.selects "KnockPipesModel" yX10_among yX10_among ∈ kp_wl := kp_tp (List.mem_map.mpr ⟨(yX10_among, 26), (List.mem_append_right _ (List.mem_append_right _ (List.mem_append_left _ (List.mem_of_getElem? (l := lw_privs_3) (i := 12) rfl)))), rfl⟩) rfl
theorem q0_3_13 : Cond.selects "KnockPipesModel" yX10_clauseOfH yX10_clauseOfH ∈ kp_wl := kp_tp (List.mem_map.mpr ⟨(yX10_clauseOfH, 26), (List.mem_append_right _ (List.mem_append_right _ (List.mem_append_left _ (List.mem_of_getElem? (l := lw_privs_3) (i := 13) rfl)))), rfl⟩) rfl
theorem q0_3_14 : Cond.selects "KnockPipesModel" yX10_tellsHere yX10_tellsHere ∈ kp_wl := kp_tp (List.mem_map.mpr ⟨(yX10_tellsHere, 26), (List.mem_append_right _ (List.mem_append_right _ (List.mem_append_left _ (List.mem_of_getElem? (l := lw_privs_3) (i := 14) rfl)))), rfl⟩) rfl
theorem q0_3_15 : Cond.selects "KnockPipesModel" yX10_tellsOf yX10_tellsOf ∈ kp_wl := kp_tp (List.mem_map.mpr ⟨(yX10_tellsOf, 26), (List.mem_append_right _ (List.mem_append_right _ (List.mem_append_left _ (List.mem_of_getElem? (l := lw_privs_3) (i := 15) rfl)))), rfl⟩) rfl
theorem q0_4_0 : Cond.selects "KnockPipesModel" yX10_warms yX10_warms ∈ kp_wl := kp_tp (List.mem_map.mpr ⟨(yX10_warms, 26), (List.mem_append_right _ (List.mem_append_right _ (List.mem_append_right _ (List.mem_append_left _ (List.mem_of_getElem? (l := lw_privs_4) (i := 0) rfl))))), rfl⟩) rfl
theorem q0_4_1 : Cond.selects "KnockPipesModel" yX10_isOn yX10_isOn ∈ kp_wl := kp_tp (List.mem_map.mpr ⟨(yX10_isOn, 26), (List.mem_append_right _ (List.mem_append_right _ (List.mem_append_right _ (List.mem_append_left _ (List.mem_of_getElem? (l := lw_privs_4) (i := 1) rfl))))), rfl⟩) rfl
theorem q0_4_2 : Cond.selects "KnockPipesModel" yX10_isNoise yX10_isNoise ∈ kp_wl := kp_tp (List.mem_map.mpr ⟨(yX10_isNoise, 26), (List.mem_append_right _ (List.mem_append_right _ (List.mem_append_right _ (List.mem_append_left _ (List.mem_of_getElem? (l := lw_privs_4) (i := 2) rfl))))), rfl⟩) rfl
theorem q0_4_3 : Cond.selects "KnockPipesModel" yX10_goes yX10_goes ∈ kp_wl := kp_tp (List.mem_map.mpr ⟨(yX10_goes, 26), (List.mem_append_right _ (List.mem_append_right _ (List.mem_append_right _ (List.mem_append_left _ (List.mem_of_getElem? (l := lw_privs_4) (i := 3) rfl))))), rfl⟩) rfl
theorem q0_4_4 : Cond.selects "KnockPipesModel" yX10_goesOf yX10_goesOf ∈ kp_wl := kp_tp (List.mem_map.mpr ⟨(yX10_goesOf, 26), (List.mem_append_right _ (List.mem_append_right _ (List.mem_append_right _ (List.mem_append_left _ (List.mem_of_getElem? (l := lw_privs_4) (i := 4) rfl))))), rfl⟩) rfl
theorem q0_4_5 : Cond.selects "KnockPipesModel" yX10_ticks yX10_ticks ∈ kp_wl := kp_tp (List.mem_map.mpr ⟨(yX10_ticks, 26), (List.mem_append_right _ (List.mem_append_right _ (List.mem_append_right _ (List.mem_append_left _ (List.mem_of_getElem? (l := lw_privs_4) (i := 5) rfl))))), rfl⟩) rfl
theorem q0_4_6 : Cond.selects "KnockPipesModel" yX10_lengthOf yX10_lengthOf ∈ kp_wl := kp_tp (List.mem_map.mpr ⟨(yX10_lengthOf, 26), (List.mem_append_right _ (List.mem_append_right _ (List.mem_append_right _ (List.mem_append_left _ (List.mem_of_getElem? (l := lw_privs_4) (i := 6) rfl))))), rfl⟩) rfl
theorem q0_4_7 : Cond.selects "KnockPipesModel" yX10_looksAt yX10_looksAt ∈ kp_wl := kp_tp (List.mem_map.mpr ⟨(yX10_looksAt, 26), (List.mem_append_right _ (List.mem_append_right _ (List.mem_append_right _ (List.mem_append_left _ (List.mem_of_getElem? (l := lw_privs_4) (i := 7) rfl))))), rfl⟩) rfl
theorem q0_4_8 : Cond.selects "KnockPipesModel" yX10_strikesBy yX10_strikesBy ∈ kp_wl := kp_tp (List.mem_map.mpr ⟨(yX10_strikesBy, 26), (List.mem_append_right _ (List.mem_append_right _ (List.mem_append_right _ (List.mem_append_left _ (List.mem_of_getElem? (l := lw_privs_4) (i := 8) rfl))))), rfl⟩) rfl
theorem q0_4_9 : Cond.selects "KnockPipesModel" yX10_hums yX10_hums ∈ kp_wl := kp_tp (List.mem_map.mpr ⟨(yX10_hums, 26), (List.mem_append_right _ (List.mem_append_right _ (List.mem_append_right _ (List.mem_append_left _ (List.mem_of_getElem? (l := lw_privs_4) (i := 9) rfl))))), rfl⟩) rfl
theorem q0_4_10 : Cond.selects "KnockPipesModel" yX10_plainly yX10_plainly ∈ kp_wl := kp_tp (List.mem_map.mpr ⟨(yX10_plainly, 26), (List.mem_append_right _ (List.mem_append_right _ (List.mem_append_right _ (List.mem_append_left _ (List.mem_of_getElem? (l := lw_privs_4) (i := 10) rfl))))), rfl⟩) rfl
theorem q0_4_11 : Cond.selects "KnockPipesModel" yX10_isStill yX10_isStill ∈ kp_wl := kp_tp (List.mem_map.mpr ⟨(yX10_isStill, 26), (List.mem_append_right _ (List.mem_append_right _ (List.mem_append_right _ (List.mem_append_left _ (List.mem_of_getElem? (l := lw_privs_4) (i := 11) rfl))))), rfl⟩) rfl
theorem q0_4_12 : Cond.selects "KnockPipesModel" yX10_loudOf yX10_loudOf ∈ kp_wl := kp_tp (List.mem_map.mpr ⟨(yX10_loudOf, 26), (List.mem_append_right _ (List.mem_append_right _ (List.mem_append_right _ (List.mem_append_left _ (List.mem_of_getElem? (l := lw_privs_4) (i := 12) rfl))))), rfl⟩) rfl
theorem q0_4_13 : Cond.selects "KnockPipesModel" yX10_isStruck yX10_isStruck ∈ kp_wl := kp_tp (List.mem_map.mpr ⟨(yX10_isStruck, 26), (List.mem_append_right _ (List.mem_append_right _ (List.mem_append_right _ (List.mem_append_left _ (List.mem_of_getElem? (l := lw_privs_4) (i := 13) rfl))))), rfl⟩) rfl
theorem q0_4_14 : Cond.selects "KnockPipesModel" yX10_moving yX10_moving ∈ kp_wl := kp_tp (List.mem_map.mpr ⟨(yX10_moving, 26), (List.mem_append_right _ (List.mem_append_right _ (List.mem_append_right _ (List.mem_append_left _ (List.mem_of_getElem? (l := lw_privs_4) (i := 14) rfl))))), rfl⟩) rfl
theorem q0_4_15 : Cond.selects "KnockPipesModel" yX10_heardAll yX10_heardAll ∈ kp_wl := kp_tp (List.mem_map.mpr ⟨(yX10_heardAll, 26), (List.mem_append_right _ (List.mem_append_right _ (List.mem_append_right _ (List.mem_append_left _ (List.mem_of_getElem? (l := lw_privs_4) (i := 15) rfl))))), rfl⟩) rfl
theorem q0_5_0 : Cond.selects "KnockPipesModel" yX10_heardOf yX10_heardOf ∈ kp_wl := kp_tp (List.mem_map.mpr ⟨(yX10_heardOf, 26), (List.mem_append_right _ (List.mem_append_right _ (List.mem_append_right _ (List.mem_append_right _ ((List.mem_of_getElem? (l := lw_privs_5) (i := 0) rfl)))))), rfl⟩) rfl
theorem q0_5_1 : Cond.selects "KnockPipesModel" yX10_fitsOf yX10_fitsOf ∈ kp_wl := kp_tp (List.mem_map.mpr ⟨(yX10_fitsOf, 26), (List.mem_append_right _ (List.mem_append_right _ (List.mem_append_right _ (List.mem_append_right _ ((List.mem_of_getElem? (l := lw_privs_5) (i := 1) rfl)))))), rfl⟩) rfl
theorem q0_5_2 : Cond.selects "KnockPipesModel" yX10_mostFitting yX10_mostFitting ∈ kp_wl := kp_tp (List.mem_map.mpr ⟨(yX10_mostFitting, 26), (List.mem_append_right _ (List.mem_append_right _ (List.mem_append_right _ (List.mem_append_right _ ((List.mem_of_getElem? (l := lw_privs_5) (i := 2) rfl)))))), rfl⟩) rfl
theorem q0_5_3 : Cond.selects "KnockPipesModel" yX10_allFitting yX10_allFitting ∈ kp_wl := kp_tp (List.mem_map.mpr ⟨(yX10_allFitting, 26), (List.mem_append_right _ (List.mem_append_right _ (List.mem_append_right _ (List.mem_append_right _ ((List.mem_of_getElem? (l := lw_privs_5) (i := 3) rfl)))))), rfl⟩) rfl
theorem q0_5_4 : Cond.selects "KnockPipesModel" yX10_worst yX10_worst ∈ kp_wl := kp_tp (List.mem_map.mpr ⟨(yX10_worst, 26), (List.mem_append_right _ (List.mem_append_right _ (List.mem_append_right _ (List.mem_append_right _ ((List.mem_of_getElem? (l := lw_privs_5) (i := 4) rfl)))))), rfl⟩) rfl
theorem q0_5_5 : Cond.selects "KnockPipesModel" yX10_harmOf yX10_harmOf ∈ kp_wl := kp_tp (List.mem_map.mpr ⟨(yX10_harmOf, 26), (List.mem_append_right _ (List.mem_append_right _ (List.mem_append_right _ (List.mem_append_right _ ((List.mem_of_getElem? (l := lw_privs_5) (i := 5) rfl)))))), rfl⟩) rfl
theorem q0_5_6 : Cond.selects "KnockPipesModel" yX10_growsActs yX10_growsActs ∈ kp_wl := kp_tp (List.mem_map.mpr ⟨(yX10_growsActs, 26), (List.mem_append_right _ (List.mem_append_right _ (List.mem_append_right _ (List.mem_append_right _ ((List.mem_of_getElem? (l := lw_privs_5) (i := 6) rfl)))))), rfl⟩) rfl
theorem q0_5_7 : Cond.selects "KnockPipesModel" yX10_runs yX10_runs ∈ kp_wl := kp_tp (List.mem_map.mpr ⟨(yX10_runs, 26), (List.mem_append_right _ (List.mem_append_right _ (List.mem_append_right _ (List.mem_append_right _ ((List.mem_of_getElem? (l := lw_privs_5) (i := 7) rfl)))))), rfl⟩) rfl
theorem q0_5_8 : Cond.selects "KnockPipesModel" yX10_plainGrows yX10_plainGrows ∈ kp_wl := kp_tp (List.mem_map.mpr ⟨(yX10_plainGrows, 26), (List.mem_append_right _ (List.mem_append_right _ (List.mem_append_right _ (List.mem_append_right _ ((List.mem_of_getElem? (l := lw_privs_5) (i := 8) rfl)))))), rfl⟩) rfl
theorem q0_5_9 : Cond.selects "KnockPipesModel" yX10_strikesActs yX10_strikesActs ∈ kp_wl := kp_tp (List.mem_map.mpr ⟨(yX10_strikesActs, 26), (List.mem_append_right _ (List.mem_append_right _ (List.mem_append_right _ (List.mem_append_right _ ((List.mem_of_getElem? (l := lw_privs_5) (i := 9) rfl)))))), rfl⟩) rfl
theorem q0_5_10 : Cond.selects "KnockPipesModel" yX10_plainStrikes yX10_plainStrikes ∈ kp_wl := kp_tp (List.mem_map.mpr ⟨(yX10_plainStrikes, 26), (List.mem_append_right _ (List.mem_append_right _ (List.mem_append_right _ (List.mem_append_right _ ((List.mem_of_getElem? (l := lw_privs_5) (i := 10) rfl)))))), rfl⟩) rfl
theorem q0_5_11 : Cond.selects "KnockPipesModel" yX10_tellsActs yX10_tellsActs ∈ kp_wl := kp_tp (List.mem_map.mpr ⟨(yX10_tellsActs, 26), (List.mem_append_right _ (List.mem_append_right _ (List.mem_append_right _ (List.mem_append_right _ ((List.mem_of_getElem? (l := lw_privs_5) (i := 11) rfl)))))), rfl⟩) rfl
theorem q0_5_12 : Cond.selects "KnockPipesModel" yX10_plainTells yX10_plainTells ∈ kp_wl := kp_tp (List.mem_map.mpr ⟨(yX10_plainTells, 26), (List.mem_append_right _ (List.mem_append_right _ (List.mem_append_right _ (List.mem_append_right _ ((List.mem_of_getElem? (l := lw_privs_5) (i := 12) rfl)))))), rfl⟩) rfl
theorem inWX0 : ∀ w ∈ u_ws RX0 TX0 5, w ∈ kp_wl := (List.forall_mem_cons.mpr ⟨q2_3, (List.forall_mem_cons.mpr ⟨q2_5, (List.forall_mem_cons.mpr ⟨q2_7, (List.forall_mem_cons.mpr ⟨q2_9, (List.forall_mem_cons.mpr ⟨q2_11, (fun _ h => by cases h)⟩)⟩)⟩)⟩)⟩)
theorem inWX1 : ∀ w ∈ u_ws RX1 TX1 6, w ∈ kp_wl := (List.forall_mem_cons.mpr ⟨q1_169, (List.forall_mem_cons.mpr ⟨q1_171, (List.forall_mem_cons.mpr ⟨q1_173, (List.forall_mem_cons.mpr ⟨q1_175, (List.forall_mem_cons.mpr ⟨q1_177, (List.forall_mem_cons.mpr ⟨q1_179, (fun _ h => by cases h)⟩)⟩)⟩)⟩)⟩)⟩)
theorem inWX2 : ∀ w ∈ u_ws RX2 TX2 7, w ∈ kp_wl := (List.forall_mem_cons.mpr ⟨q1_82, (List.forall_mem_cons.mpr ⟨q1_84, (List.forall_mem_cons.mpr ⟨q1_86, (List.forall_mem_cons.mpr ⟨q1_88, (List.forall_mem_cons.mpr ⟨q1_90, (List.forall_mem_cons.mpr ⟨q1_92, (List.forall_mem_cons.mpr ⟨q1_94, (fun _ h => by cases h)⟩)⟩)⟩)⟩)⟩)⟩)⟩)
theorem inWX3 : ∀ w ∈ u_ws RX3 TX3 6, w ∈ kp_wl := (List.forall_mem_cons.mpr ⟨q1_121, (List.forall_mem_cons.mpr ⟨q1_123, (List.forall_mem_cons.mpr ⟨q1_125, (List.forall_mem_cons.mpr ⟨q1_127, (List.forall_mem_cons.mpr ⟨q1_129, (List.forall_mem_cons.mpr ⟨q1_131, (fun _ h => by cases h)⟩)⟩)⟩)⟩)⟩)⟩)
theorem inWX4 : ∀ w ∈ u_ws RX4 TX4 4, w ∈ kp_wl := (List.forall_mem_cons.mpr ⟨q1_148, (List.forall_mem_cons.mpr ⟨q1_150, (List.forall_mem_cons.mpr ⟨q1_152, (List.forall_mem_cons.mpr ⟨q1_154, (fun _ h => by cases h)⟩)⟩)⟩)⟩)
theorem inWX5 : ∀ w ∈ u_ws RX5 TX5 3, w ∈ kp_wl := (List.forall_mem_cons.mpr ⟨q1_197, (List.forall_mem_cons.mpr ⟨q1_199, (List.forall_mem_cons.mpr ⟨q1_201, (fun _ h => by cases h)⟩)⟩)⟩)
theorem inWX6 : ∀ w ∈ u_ws RX6 TX6 6, w ∈ kp_wl := (List.forall_mem_cons.mpr ⟨q1_217, (List.forall_mem_cons.mpr ⟨q1_219, (List.forall_mem_cons.mpr ⟨q1_221, (List.forall_mem_cons.mpr ⟨q1_223, (List.forall_mem_cons.mpr ⟨q1_225, (List.forall_mem_cons.mpr ⟨q1_227, (fun _ h => by cases h)⟩)⟩)⟩)⟩)⟩)⟩)
theorem inWX7 : ∀ w ∈ u_ws RX7 TX7 2, w ∈ kp_wl := (List.forall_mem_cons.mpr ⟨q1_45, (List.forall_mem_cons.mpr ⟨q1_47, (fun _ h => by cases h)⟩)⟩)
theorem inWX9 : ∀ w ∈ u_ws RX9 TX9 8, w ∈ kp_wl := (List.forall_mem_cons.mpr ⟨q2_22, (List.forall_mem_cons.mpr ⟨q2_24, (List.forall_mem_cons.mpr ⟨q2_26, (List.forall_mem_cons.mpr ⟨q2_28, (List.forall_mem_cons.mpr ⟨q2_30, (List.forall_mem_cons.mpr ⟨q2_32, (List.forall_mem_cons.mpr ⟨q2_34, (List.forall_mem_cons.mpr ⟨q2_36, (fun _ h => by cases h)⟩)⟩)⟩)⟩)⟩)⟩)⟩)⟩)
theorem inWX10 : ∀ w ∈ u_ws RX10 TX10 26, w ∈ kp_wl := (List.forall_mem_cons.mpr ⟨q4_81, (List.forall_mem_cons.mpr ⟨q4_83, (List.forall_mem_cons.mpr ⟨q4_85, (List.forall_mem_cons.mpr ⟨q4_87, (List.forall_mem_cons.mpr ⟨q4_89, (List.forall_mem_cons.mpr ⟨q4_91, (List.forall_mem_cons.mpr ⟨q4_93, (List.forall_mem_cons.mpr ⟨q4_95, (List.forall_mem_cons.mpr ⟨q4_97, (List.forall_mem_cons.mpr ⟨q4_99, (List.forall_mem_cons.mpr ⟨q4_101, (List.forall_mem_cons.mpr ⟨q4_103, (List.forall_mem_cons.mpr ⟨q4_105, (List.forall_mem_cons.mpr ⟨q4_107, (List.forall_mem_cons.mpr ⟨q4_109, (List.forall_mem_cons.mpr ⟨q4_111, (List.forall_mem_cons.mpr ⟨q4_113, (List.forall_mem_cons.mpr ⟨q4_115, (List.forall_mem_cons.mpr ⟨q4_117, (List.forall_mem_cons.mpr ⟨q4_119, (List.forall_mem_cons.mpr ⟨q4_121, (List.forall_mem_cons.mpr ⟨q4_123, (List.forall_mem_cons.mpr ⟨q4_125, (List.forall_mem_cons.mpr ⟨q4_127, (List.forall_mem_cons.mpr ⟨q4_129, (List.forall_mem_cons.mpr ⟨q4_131, (fun _ h => by cases h)⟩)⟩)⟩)⟩)⟩)⟩)⟩)⟩)⟩)⟩)⟩)⟩)⟩)⟩)⟩)⟩)⟩)⟩)⟩)⟩)⟩)⟩)⟩)⟩)⟩)⟩)
end
section
-- decode rows, as printed (NAMES.whole)
theorem dX0_init_0 : decode cX0_init 0 = .ok (.aload_n 0, 1) := by decide +kernel
theorem dX0_init_1 : decode cX0_init 1 = .ok (.invokespecial 3, 3) := by decide +kernel
theorem dX0_init_4 : decode cX0_init 4 = .ok (.aload_n 0, 1) := by decide +kernel
theorem dX0_init_5 : decode cX0_init 5 = .ok (.bipush 20, 2) := by decide +kernel
theorem dX0_init_7 : decode cX0_init 7 = .ok (.newarray .int, 2) := by decide +kernel
theorem dX0_init_9 : decode cX0_init 9 = .ok (.putfield 11, 3) := by decide +kernel
theorem dX0_init_12 : decode cX0_init 12 = .ok (.aload_n 0, 1) := by decide +kernel
theorem dX0_init_13 : decode cX0_init 13 = .ok (.iconst 0, 1) := by decide +kernel
theorem dX0_init_14 : decode cX0_init 14 = .ok (.putfield 15, 3) := by decide +kernel
theorem dX0_init_17 : decode cX0_init 17 = .ok (.aload_n 0, 1) := by decide +kernel
theorem dX0_init_18 : decode cX0_init 18 = .ok (.iconst 0, 1) := by decide +kernel
theorem dX0_init_19 : decode cX0_init 19 = .ok (.putfield 19, 3) := by decide +kernel
theorem dX0_init_22 : decode cX0_init 22 = .ok (.aload_n 0, 1) := by decide +kernel
theorem dX0_init_23 : decode cX0_init 23 = .ok (.iconst 0, 1) := by decide +kernel
theorem dX0_init_24 : decode cX0_init 24 = .ok (.putfield 22, 3) := by decide +kernel
theorem dX0_init_27 : decode cX0_init 27 = .ok (.aload_n 0, 1) := by decide +kernel
theorem dX0_init_28 : decode cX0_init 28 = .ok (.iconst 0, 1) := by decide +kernel
theorem dX0_init_29 : decode cX0_init 29 = .ok (.putfield 25, 3) := by decide +kernel
theorem dX0_init_32 : decode cX0_init 32 = .ok (.return_, 1) := by decide +kernel
theorem dX0_start_0 : decode cX0_start 0 = .ok (.aload_n 0, 1) := by decide +kernel
theorem dX0_start_1 : decode cX0_start 1 = .ok (.iconst 0, 1) := by decide +kernel
theorem dX0_start_2 : decode cX0_start 2 = .ok (.putfield 15, 3) := by decide +kernel
theorem dX0_start_5 : decode cX0_start 5 = .ok (.aload_n 0, 1) := by decide +kernel
theorem dX0_start_6 : decode cX0_start 6 = .ok (.aload_n 1, 1) := by decide +kernel
theorem dX0_start_7 : decode cX0_start 7 = .ok (.getfield 28, 3) := by decide +kernel
theorem dX0_start_10 : decode cX0_start 10 = .ok (.iload_n 2, 1) := by decide +kernel
theorem dX0_start_11 : decode cX0_start 11 = .ok (.iaload, 1) := by decide +kernel
theorem dX0_start_12 : decode cX0_start 12 = .ok (.putfield 19, 3) := by decide +kernel
theorem dX0_start_15 : decode cX0_start 15 = .ok (.aload_n 0, 1) := by decide +kernel
theorem dX0_start_16 : decode cX0_start 16 = .ok (.iload_n 2, 1) := by decide +kernel
theorem dX0_start_17 : decode cX0_start 17 = .ok (.putfield 22, 3) := by decide +kernel
theorem dX0_start_20 : decode cX0_start 20 = .ok (.aload_n 0, 1) := by decide +kernel
theorem dX0_start_21 : decode cX0_start 21 = .ok (.aload_n 1, 1) := by decide +kernel
theorem dX0_start_22 : decode cX0_start 22 = .ok (.getfield 32, 3) := by decide +kernel
theorem dX0_start_25 : decode cX0_start 25 = .ok (.iload_n 2, 1) := by decide +kernel
theorem dX0_start_26 : decode cX0_start 26 = .ok (.iaload, 1) := by decide +kernel
theorem dX0_start_27 : decode cX0_start 27 = .ok (.putfield 25, 3) := by decide +kernel
theorem dX0_start_30 : decode cX0_start 30 = .ok (.aload_n 0, 1) := by decide +kernel
theorem dX0_start_31 : decode cX0_start 31 = .ok (.aload_n 0, 1) := by decide +kernel
theorem dX0_start_32 : decode cX0_start 32 = .ok (.getfield 19, 3) := by decide +kernel
theorem dX0_start_35 : decode cX0_start 35 = .ok (.iload_n 3, 1) := by decide +kernel
theorem dX0_start_36 : decode cX0_start 36 = .ok (.iload 4, 2) := by decide +kernel
theorem dX0_start_38 : decode cX0_start 38 = .ok (.iconst 0, 1) := by decide +kernel
theorem dX0_start_39 : decode cX0_start 39 = .ok (.invokevirtual 34, 3) := by decide +kernel
theorem dX0_start_42 : decode cX0_start 42 = .ok (.ireturn, 1) := by decide +kernel
theorem dX0_send_0 : decode cX0_send 0 = .ok (.iload 4, 2) := by decide +kernel
theorem dX0_send_2 : decode cX0_send 2 = .ok (.bipush 20, 2) := by decide +kernel
theorem dX0_send_4 : decode cX0_send 4 = .ok (.if_icmp .le 5, 3) := by decide +kernel
theorem dX0_send_7 : decode cX0_send 7 = .ok (.iconst 0, 1) := by decide +kernel
theorem dX0_send_8 : decode cX0_send 8 = .ok (.ireturn, 1) := by decide +kernel
theorem dX0_send_9 : decode cX0_send 9 = .ok (.iload_n 1, 1) := by decide +kernel
theorem dX0_send_10 : decode cX0_send 10 = .ok (.istore 5, 2) := by decide +kernel
theorem dX0_send_12 : decode cX0_send 12 = .ok (.iconst 0, 1) := by decide +kernel
theorem dX0_send_13 : decode cX0_send 13 = .ok (.istore 6, 2) := by decide +kernel
theorem dX0_send_15 : decode cX0_send 15 = .ok (.iload 6, 2) := by decide +kernel
theorem dX0_send_17 : decode cX0_send 17 = .ok (.bipush 7, 2) := by decide +kernel
theorem dX0_send_19 : decode cX0_send 19 = .ok (.if_icmp .ge 60, 3) := by decide +kernel
theorem dX0_send_22 : decode cX0_send 22 = .ok (.iload 5, 2) := by decide +kernel
theorem dX0_send_24 : decode cX0_send 24 = .ok (.invokestatic 38, 3) := by decide +kernel
theorem dX0_send_27 : decode cX0_send 27 = .ok (.ifCond .eq 52, 3) := by decide +kernel
theorem dX0_send_30 : decode cX0_send 30 = .ok (.getstatic 42, 3) := by decide +kernel
theorem dX0_send_33 : decode cX0_send 33 = .ok (.iload 5, 2) := by decide +kernel
theorem dX0_send_35 : decode cX0_send 35 = .ok (.iconst 3, 1) := by decide +kernel
theorem dX0_send_36 : decode cX0_send 36 = .ok (.imul, 1) := by decide +kernel
theorem dX0_send_37 : decode cX0_send 37 = .ok (.iload_n 2, 1) := by decide +kernel
theorem dX0_send_38 : decode cX0_send 38 = .ok (.iadd, 1) := by decide +kernel
theorem dX0_send_39 : decode cX0_send 39 = .ok (.iaload, 1) := by decide +kernel
theorem dX0_send_40 : decode cX0_send 40 = .ok (.istore 7, 2) := by decide +kernel
theorem dX0_send_42 : decode cX0_send 42 = .ok (.iload 7, 2) := by decide +kernel
theorem dX0_send_44 : decode cX0_send 44 = .ok (.ifCond .eq 21, 3) := by decide +kernel
theorem dX0_send_47 : decode cX0_send 47 = .ok (.aload_n 0, 1) := by decide +kernel
theorem dX0_send_48 : decode cX0_send 48 = .ok (.iload 7, 2) := by decide +kernel
theorem dX0_send_50 : decode cX0_send 50 = .ok (.getstatic 45, 3) := by decide +kernel
theorem dX0_send_53 : decode cX0_send 53 = .ok (.iload 5, 2) := by decide +kernel
theorem dX0_send_55 : decode cX0_send 55 = .ok (.iaload, 1) := by decide +kernel
theorem dX0_send_56 : decode cX0_send 56 = .ok (.iload_n 3, 1) := by decide +kernel
theorem dX0_send_57 : decode cX0_send 57 = .ok (.iload 4, 2) := by decide +kernel
theorem dX0_send_59 : decode cX0_send 59 = .ok (.iconst 1, 1) := by decide +kernel
theorem dX0_send_60 : decode cX0_send 60 = .ok (.iadd, 1) := by decide +kernel
theorem dX0_send_61 : decode cX0_send 61 = .ok (.invokevirtual 48, 3) := by decide +kernel
theorem dX0_send_64 : decode cX0_send 64 = .ok (.ireturn, 1) := by decide +kernel
theorem dX0_send_65 : decode cX0_send 65 = .ok (.getstatic 45, 3) := by decide +kernel
theorem dX0_send_68 : decode cX0_send 68 = .ok (.iload 5, 2) := by decide +kernel
theorem dX0_send_70 : decode cX0_send 70 = .ok (.iaload, 1) := by decide +kernel
theorem dX0_send_71 : decode cX0_send 71 = .ok (.istore 5, 2) := by decide +kernel
theorem dX0_send_73 : decode cX0_send 73 = .ok (.iinc 6 1, 3) := by decide +kernel
theorem dX0_send_76 : decode cX0_send 76 = .ok (.goto (-61), 3) := by decide +kernel
theorem dX0_send_79 : decode cX0_send 79 = .ok (.iconst 0, 1) := by decide +kernel
theorem dX0_send_80 : decode cX0_send 80 = .ok (.ireturn, 1) := by decide +kernel
theorem dX0_run_0 : decode cX0_run 0 = .ok (.aload_n 0, 1) := by decide +kernel
theorem dX0_run_1 : decode cX0_run 1 = .ok (.getfield 15, 3) := by decide +kernel
theorem dX0_run_4 : decode cX0_run 4 = .ok (.ifCond .lt 25, 3) := by decide +kernel
theorem dX0_run_7 : decode cX0_run 7 = .ok (.aload_n 0, 1) := by decide +kernel
theorem dX0_run_8 : decode cX0_run 8 = .ok (.getfield 15, 3) := by decide +kernel
theorem dX0_run_11 : decode cX0_run 11 = .ok (.aload_n 0, 1) := by decide +kernel
theorem dX0_run_12 : decode cX0_run 12 = .ok (.getfield 11, 3) := by decide +kernel
theorem dX0_run_15 : decode cX0_run 15 = .ok (.arraylength, 1) := by decide +kernel
theorem dX0_run_16 : decode cX0_run 16 = .ok (.if_icmp .ge 13, 3) := by decide +kernel
theorem dX0_run_19 : decode cX0_run 19 = .ok (.aload_n 0, 1) := by decide +kernel
theorem dX0_run_20 : decode cX0_run 20 = .ok (.getfield 11, 3) := by decide +kernel
theorem dX0_run_23 : decode cX0_run 23 = .ok (.aload_n 0, 1) := by decide +kernel
theorem dX0_run_24 : decode cX0_run 24 = .ok (.getfield 15, 3) := by decide +kernel
theorem dX0_run_27 : decode cX0_run 27 = .ok (.iload_n 1, 1) := by decide +kernel
theorem dX0_run_28 : decode cX0_run 28 = .ok (.iastore, 1) := by decide +kernel
theorem dX0_run_29 : decode cX0_run 29 = .ok (.aload_n 0, 1) := by decide +kernel
theorem dX0_run_30 : decode cX0_run 30 = .ok (.dup, 1) := by decide +kernel
theorem dX0_run_31 : decode cX0_run 31 = .ok (.getfield 15, 3) := by decide +kernel
theorem dX0_run_34 : decode cX0_run 34 = .ok (.iconst 1, 1) := by decide +kernel
theorem dX0_run_35 : decode cX0_run 35 = .ok (.iadd, 1) := by decide +kernel
theorem dX0_run_36 : decode cX0_run 36 = .ok (.putfield 15, 3) := by decide +kernel
theorem dX0_run_39 : decode cX0_run 39 = .ok (.iload_n 1, 1) := by decide +kernel
theorem dX0_run_40 : decode cX0_run 40 = .ok (.lookupswitch 215 #[(1, 84), (2, 91), (3, 109), (11, 124), (21, 136), (31, 147), (41, 160), (51, 185), (61, 200)], 84) := by decide +kernel
theorem dX0_run_124 : decode cX0_run 124 = .ok (.iload_n 3, 1) := by decide +kernel
theorem dX0_run_125 : decode cX0_run 125 = .ok (.aload_n 0, 1) := by decide +kernel
theorem dX0_run_126 : decode cX0_run 126 = .ok (.getfield 22, 3) := by decide +kernel
theorem dX0_run_129 : decode cX0_run 129 = .ok (.iadd, 1) := by decide +kernel
theorem dX0_run_130 : decode cX0_run 130 = .ok (.ireturn, 1) := by decide +kernel
theorem dX0_run_131 : decode cX0_run 131 = .ok (.aload_n 0, 1) := by decide +kernel
theorem dX0_run_132 : decode cX0_run 132 = .ok (.aload_n 0, 1) := by decide +kernel
theorem dX0_run_133 : decode cX0_run 133 = .ok (.getfield 19, 3) := by decide +kernel
theorem dX0_run_136 : decode cX0_run 136 = .ok (.iconst 0, 1) := by decide +kernel
theorem dX0_run_137 : decode cX0_run 137 = .ok (.iload_n 3, 1) := by decide +kernel
theorem dX0_run_138 : decode cX0_run 138 = .ok (.iload 4, 2) := by decide +kernel
theorem dX0_run_140 : decode cX0_run 140 = .ok (.invokevirtual 34, 3) := by decide +kernel
theorem dX0_run_143 : decode cX0_run 143 = .ok (.aload_n 0, 1) := by decide +kernel
theorem dX0_run_144 : decode cX0_run 144 = .ok (.getfield 25, 3) := by decide +kernel
theorem dX0_run_147 : decode cX0_run 147 = .ok (.isub, 1) := by decide +kernel
theorem dX0_run_148 : decode cX0_run 148 = .ok (.ireturn, 1) := by decide +kernel
theorem dX0_run_149 : decode cX0_run 149 = .ok (.aload_n 0, 1) := by decide +kernel
theorem dX0_run_150 : decode cX0_run 150 = .ok (.aload_n 0, 1) := by decide +kernel
theorem dX0_run_151 : decode cX0_run 151 = .ok (.getfield 19, 3) := by decide +kernel
theorem dX0_run_154 : decode cX0_run 154 = .ok (.iconst 1, 1) := by decide +kernel
theorem dX0_run_155 : decode cX0_run 155 = .ok (.iload_n 3, 1) := by decide +kernel
theorem dX0_run_156 : decode cX0_run 156 = .ok (.iload 4, 2) := by decide +kernel
theorem dX0_run_158 : decode cX0_run 158 = .ok (.invokevirtual 34, 3) := by decide +kernel
theorem dX0_run_161 : decode cX0_run 161 = .ok (.iconst 2, 1) := by decide +kernel
theorem dX0_run_162 : decode cX0_run 162 = .ok (.imul, 1) := by decide +kernel
theorem dX0_run_163 : decode cX0_run 163 = .ok (.ireturn, 1) := by decide +kernel
theorem dX0_run_164 : decode cX0_run 164 = .ok (.aload_n 0, 1) := by decide +kernel
theorem dX0_run_165 : decode cX0_run 165 = .ok (.iload_n 2, 1) := by decide +kernel
theorem dX0_run_166 : decode cX0_run 166 = .ok (.iconst 0, 1) := by decide +kernel
theorem dX0_run_167 : decode cX0_run 167 = .ok (.iload_n 3, 1) := by decide +kernel
theorem dX0_run_168 : decode cX0_run 168 = .ok (.iconst 3, 1) := by decide +kernel
theorem dX0_run_169 : decode cX0_run 169 = .ok (.imul, 1) := by decide +kernel
theorem dX0_run_170 : decode cX0_run 170 = .ok (.iload 4, 2) := by decide +kernel
theorem dX0_run_172 : decode cX0_run 172 = .ok (.invokevirtual 34, 3) := by decide +kernel
theorem dX0_run_175 : decode cX0_run 175 = .ok (.ireturn, 1) := by decide +kernel
theorem dX0_run_176 : decode cX0_run 176 = .ok (.aload_n 0, 1) := by decide +kernel
theorem dX0_run_177 : decode cX0_run 177 = .ok (.iload_n 2, 1) := by decide +kernel
theorem dX0_run_178 : decode cX0_run 178 = .ok (.iconst 1, 1) := by decide +kernel
theorem dX0_run_179 : decode cX0_run 179 = .ok (.iload_n 3, 1) := by decide +kernel
theorem dX0_run_180 : decode cX0_run 180 = .ok (.iload 4, 2) := by decide +kernel
theorem dX0_run_182 : decode cX0_run 182 = .ok (.invokevirtual 34, 3) := by decide +kernel
theorem dX0_run_185 : decode cX0_run 185 = .ok (.ineg, 1) := by decide +kernel
theorem dX0_run_186 : decode cX0_run 186 = .ok (.ireturn, 1) := by decide +kernel
theorem dX0_run_187 : decode cX0_run 187 = .ok (.aload_n 0, 1) := by decide +kernel
theorem dX0_run_188 : decode cX0_run 188 = .ok (.iload_n 2, 1) := by decide +kernel
theorem dX0_run_189 : decode cX0_run 189 = .ok (.iconst 2, 1) := by decide +kernel
theorem dX0_run_190 : decode cX0_run 190 = .ok (.iload_n 3, 1) := by decide +kernel
theorem dX0_run_191 : decode cX0_run 191 = .ok (.iload 4, 2) := by decide +kernel
theorem dX0_run_193 : decode cX0_run 193 = .ok (.invokevirtual 34, 3) := by decide +kernel
theorem dX0_run_196 : decode cX0_run 196 = .ok (.bipush 7, 2) := by decide +kernel
theorem dX0_run_198 : decode cX0_run 198 = .ok (.ixor, 1) := by decide +kernel
theorem dX0_run_199 : decode cX0_run 199 = .ok (.ireturn, 1) := by decide +kernel
theorem dX0_run_200 : decode cX0_run 200 = .ok (.aload_n 0, 1) := by decide +kernel
theorem dX0_run_201 : decode cX0_run 201 = .ok (.iload_n 2, 1) := by decide +kernel
theorem dX0_run_202 : decode cX0_run 202 = .ok (.iconst 2, 1) := by decide +kernel
theorem dX0_run_203 : decode cX0_run 203 = .ok (.iload_n 3, 1) := by decide +kernel
theorem dX0_run_204 : decode cX0_run 204 = .ok (.iconst 1, 1) := by decide +kernel
theorem dX0_run_205 : decode cX0_run 205 = .ok (.isub, 1) := by decide +kernel
theorem dX0_run_206 : decode cX0_run 206 = .ok (.iload 4, 2) := by decide +kernel
theorem dX0_run_208 : decode cX0_run 208 = .ok (.invokevirtual 34, 3) := by decide +kernel
theorem dX0_run_211 : decode cX0_run 211 = .ok (.aload_n 0, 1) := by decide +kernel
theorem dX0_run_212 : decode cX0_run 212 = .ok (.aload_n 0, 1) := by decide +kernel
theorem dX0_run_213 : decode cX0_run 213 = .ok (.getfield 19, 3) := by decide +kernel
theorem dX0_run_216 : decode cX0_run 216 = .ok (.iconst 0, 1) := by decide +kernel
theorem dX0_run_217 : decode cX0_run 217 = .ok (.iconst 2, 1) := by decide +kernel
theorem dX0_run_218 : decode cX0_run 218 = .ok (.iload 4, 2) := by decide +kernel
theorem dX0_run_220 : decode cX0_run 220 = .ok (.invokevirtual 34, 3) := by decide +kernel
theorem dX0_run_223 : decode cX0_run 223 = .ok (.iadd, 1) := by decide +kernel
theorem dX0_run_224 : decode cX0_run 224 = .ok (.ireturn, 1) := by decide +kernel
theorem dX0_run_225 : decode cX0_run 225 = .ok (.aload_n 0, 1) := by decide +kernel
theorem dX0_run_226 : decode cX0_run 226 = .ok (.iload_n 2, 1) := by decide +kernel
theorem dX0_run_227 : decode cX0_run 227 = .ok (.iconst 0, 1) := by decide +kernel
theorem dX0_run_228 : decode cX0_run 228 = .ok (.iload_n 3, 1) := by decide +kernel
theorem dX0_run_229 : decode cX0_run 229 = .ok (.iload 4, 2) := by decide +kernel
theorem dX0_run_231 : decode cX0_run 231 = .ok (.invokevirtual 34, 3) := by decide +kernel
theorem dX0_run_234 : decode cX0_run 234 = .ok (.aload_n 0, 1) := by decide +kernel
theorem dX0_run_235 : decode cX0_run 235 = .ok (.getfield 22, 3) := by decide +kernel
theorem dX0_run_238 : decode cX0_run 238 = .ok (.ixor, 1) := by decide +kernel
theorem dX0_run_239 : decode cX0_run 239 = .ok (.ireturn, 1) := by decide +kernel
theorem dX0_run_240 : decode cX0_run 240 = .ok (.aload_n 0, 1) := by decide +kernel
theorem dX0_run_241 : decode cX0_run 241 = .ok (.iload_n 2, 1) := by decide +kernel
theorem dX0_run_242 : decode cX0_run 242 = .ok (.iconst 1, 1) := by decide +kernel
theorem dX0_run_243 : decode cX0_run 243 = .ok (.iload_n 3, 1) := by decide +kernel
theorem dX0_run_244 : decode cX0_run 244 = .ok (.iload 4, 2) := by decide +kernel
theorem dX0_run_246 : decode cX0_run 246 = .ok (.invokevirtual 34, 3) := by decide +kernel
theorem dX0_run_249 : decode cX0_run 249 = .ok (.aload_n 0, 1) := by decide +kernel
theorem dX0_run_250 : decode cX0_run 250 = .ok (.getfield 25, 3) := by decide +kernel
theorem dX0_run_253 : decode cX0_run 253 = .ok (.iadd, 1) := by decide +kernel
theorem dX0_run_254 : decode cX0_run 254 = .ok (.ireturn, 1) := by decide +kernel
theorem dX0_run_255 : decode cX0_run 255 = .ok (.iconst 0, 1) := by decide +kernel
theorem dX0_run_256 : decode cX0_run 256 = .ok (.ireturn, 1) := by decide +kernel
theorem dX1_init_0 : decode cX1_init 0 = .ok (.aload_n 0, 1) := by decide +kernel
theorem dX1_init_1 : decode cX1_init 1 = .ok (.invokespecial 3, 3) := by decide +kernel
theorem dX1_init_4 : decode cX1_init 4 = .ok (.aload_n 0, 1) := by decide +kernel
theorem dX1_init_5 : decode cX1_init 5 = .ok (.iconst 3, 1) := by decide +kernel
theorem dX1_init_6 : decode cX1_init 6 = .ok (.newarray .long, 2) := by decide +kernel
theorem dX1_init_8 : decode cX1_init 8 = .ok (.putfield 9, 3) := by decide +kernel
theorem dX1_init_11 : decode cX1_init 11 = .ok (.aload_n 0, 1) := by decide +kernel
theorem dX1_init_12 : decode cX1_init 12 = .ok (.new 15, 3) := by decide +kernel
theorem dX1_init_15 : decode cX1_init 15 = .ok (.dup, 1) := by decide +kernel
theorem dX1_init_16 : decode cX1_init 16 = .ok (.invokespecial 17, 3) := by decide +kernel
theorem dX1_init_19 : decode cX1_init 19 = .ok (.putfield 18, 3) := by decide +kernel
theorem dX1_init_22 : decode cX1_init 22 = .ok (.aload_n 0, 1) := by decide +kernel
theorem dX1_init_23 : decode cX1_init 23 = .ok (.new 22, 3) := by decide +kernel
theorem dX1_init_26 : decode cX1_init 26 = .ok (.dup, 1) := by decide +kernel
theorem dX1_init_27 : decode cX1_init 27 = .ok (.invokespecial 24, 3) := by decide +kernel
theorem dX1_init_30 : decode cX1_init 30 = .ok (.putfield 25, 3) := by decide +kernel
theorem dX1_init_33 : decode cX1_init 33 = .ok (.aload_n 0, 1) := by decide +kernel
theorem dX1_init_34 : decode cX1_init 34 = .ok (.new 29, 3) := by decide +kernel
theorem dX1_init_37 : decode cX1_init 37 = .ok (.dup, 1) := by decide +kernel
theorem dX1_init_38 : decode cX1_init 38 = .ok (.invokespecial 31, 3) := by decide +kernel
theorem dX1_init_41 : decode cX1_init 41 = .ok (.putfield 32, 3) := by decide +kernel
theorem dX1_init_44 : decode cX1_init 44 = .ok (.aload_n 0, 1) := by decide +kernel
theorem dX1_init_45 : decode cX1_init 45 = .ok (.new 36, 3) := by decide +kernel
theorem dX1_init_48 : decode cX1_init 48 = .ok (.dup, 1) := by decide +kernel
theorem dX1_init_49 : decode cX1_init 49 = .ok (.invokespecial 38, 3) := by decide +kernel
theorem dX1_init_52 : decode cX1_init 52 = .ok (.putfield 39, 3) := by decide +kernel
theorem dX1_init_55 : decode cX1_init 55 = .ok (.aload_n 0, 1) := by decide +kernel
theorem dX1_init_56 : decode cX1_init 56 = .ok (.iconst 0, 1) := by decide +kernel
theorem dX1_init_57 : decode cX1_init 57 = .ok (.putfield 43, 3) := by decide +kernel
theorem dX1_init_60 : decode cX1_init 60 = .ok (.return_, 1) := by decide +kernel
theorem dX1_copy_0 : decode cX1_copy 0 = .ok (.aload_n 1, 1) := by decide +kernel
theorem dX1_copy_1 : decode cX1_copy 1 = .ok (.getfield 9, 3) := by decide +kernel
theorem dX1_copy_4 : decode cX1_copy 4 = .ok (.iconst 0, 1) := by decide +kernel
theorem dX1_copy_5 : decode cX1_copy 5 = .ok (.aload_n 0, 1) := by decide +kernel
theorem dX1_copy_6 : decode cX1_copy 6 = .ok (.getfield 9, 3) := by decide +kernel
theorem dX1_copy_9 : decode cX1_copy 9 = .ok (.iconst 0, 1) := by decide +kernel
theorem dX1_copy_10 : decode cX1_copy 10 = .ok (.iconst 3, 1) := by decide +kernel
theorem dX1_copy_11 : decode cX1_copy 11 = .ok (.invokestatic 47, 3) := by decide +kernel
theorem dX1_copy_14 : decode cX1_copy 14 = .ok (.aload_n 0, 1) := by decide +kernel
theorem dX1_copy_15 : decode cX1_copy 15 = .ok (.getfield 18, 3) := by decide +kernel
theorem dX1_copy_18 : decode cX1_copy 18 = .ok (.aload_n 1, 1) := by decide +kernel
theorem dX1_copy_19 : decode cX1_copy 19 = .ok (.getfield 18, 3) := by decide +kernel
theorem dX1_copy_22 : decode cX1_copy 22 = .ok (.invokevirtual 53, 3) := by decide +kernel
theorem dX1_copy_25 : decode cX1_copy 25 = .ok (.aload_n 0, 1) := by decide +kernel
theorem dX1_copy_26 : decode cX1_copy 26 = .ok (.getfield 25, 3) := by decide +kernel
theorem dX1_copy_29 : decode cX1_copy 29 = .ok (.aload_n 1, 1) := by decide +kernel
theorem dX1_copy_30 : decode cX1_copy 30 = .ok (.getfield 25, 3) := by decide +kernel
theorem dX1_copy_33 : decode cX1_copy 33 = .ok (.invokevirtual 57, 3) := by decide +kernel
theorem dX1_copy_36 : decode cX1_copy 36 = .ok (.aload_n 0, 1) := by decide +kernel
theorem dX1_copy_37 : decode cX1_copy 37 = .ok (.getfield 32, 3) := by decide +kernel
theorem dX1_copy_40 : decode cX1_copy 40 = .ok (.aload_n 1, 1) := by decide +kernel
theorem dX1_copy_41 : decode cX1_copy 41 = .ok (.getfield 32, 3) := by decide +kernel
theorem dX1_copy_44 : decode cX1_copy 44 = .ok (.invokevirtual 60, 3) := by decide +kernel
theorem dX1_copy_47 : decode cX1_copy 47 = .ok (.aload_n 0, 1) := by decide +kernel
theorem dX1_copy_48 : decode cX1_copy 48 = .ok (.getfield 39, 3) := by decide +kernel
theorem dX1_copy_51 : decode cX1_copy 51 = .ok (.aload_n 1, 1) := by decide +kernel
theorem dX1_copy_52 : decode cX1_copy 52 = .ok (.getfield 39, 3) := by decide +kernel
theorem dX1_copy_55 : decode cX1_copy 55 = .ok (.invokevirtual 63, 3) := by decide +kernel
theorem dX1_copy_58 : decode cX1_copy 58 = .ok (.aload_n 0, 1) := by decide +kernel
theorem dX1_copy_59 : decode cX1_copy 59 = .ok (.aload_n 1, 1) := by decide +kernel
theorem dX1_copy_60 : decode cX1_copy 60 = .ok (.getfield 43, 3) := by decide +kernel
theorem dX1_copy_63 : decode cX1_copy 63 = .ok (.putfield 43, 3) := by decide +kernel
theorem dX1_copy_66 : decode cX1_copy 66 = .ok (.return_, 1) := by decide +kernel
theorem dX2_init_0 : decode cX2_init 0 = .ok (.aload_n 0, 1) := by decide +kernel
theorem dX2_init_1 : decode cX2_init 1 = .ok (.invokespecial 3, 3) := by decide +kernel
theorem dX2_init_4 : decode cX2_init 4 = .ok (.aload_n 0, 1) := by decide +kernel
theorem dX2_init_5 : decode cX2_init 5 = .ok (.iconst 5, 1) := by decide +kernel
theorem dX2_init_6 : decode cX2_init 6 = .ok (.newarray .int, 2) := by decide +kernel
theorem dX2_init_8 : decode cX2_init 8 = .ok (.putfield 9, 3) := by decide +kernel
theorem dX2_init_11 : decode cX2_init 11 = .ok (.aload_n 0, 1) := by decide +kernel
theorem dX2_init_12 : decode cX2_init 12 = .ok (.bipush 120, 2) := by decide +kernel
theorem dX2_init_14 : decode cX2_init 14 = .ok (.newarray .int, 2) := by decide +kernel
theorem dX2_init_16 : decode cX2_init 16 = .ok (.putfield 15, 3) := by decide +kernel
theorem dX2_init_19 : decode cX2_init 19 = .ok (.aload_n 0, 1) := by decide +kernel
theorem dX2_init_20 : decode cX2_init 20 = .ok (.bipush 10, 2) := by decide +kernel
theorem dX2_init_22 : decode cX2_init 22 = .ok (.newarray .boolean, 2) := by decide +kernel
theorem dX2_init_24 : decode cX2_init 24 = .ok (.putfield 18, 3) := by decide +kernel
theorem dX2_init_27 : decode cX2_init 27 = .ok (.aload_n 0, 1) := by decide +kernel
theorem dX2_init_28 : decode cX2_init 28 = .ok (.bipush 10, 2) := by decide +kernel
theorem dX2_init_30 : decode cX2_init 30 = .ok (.newarray .int, 2) := by decide +kernel
theorem dX2_init_32 : decode cX2_init 32 = .ok (.putfield 22, 3) := by decide +kernel
theorem dX2_init_35 : decode cX2_init 35 = .ok (.aload_n 0, 1) := by decide +kernel
theorem dX2_init_36 : decode cX2_init 36 = .ok (.bipush 10, 2) := by decide +kernel
theorem dX2_init_38 : decode cX2_init 38 = .ok (.newarray .int, 2) := by decide +kernel
theorem dX2_init_40 : decode cX2_init 40 = .ok (.putfield 25, 3) := by decide +kernel
theorem dX2_init_43 : decode cX2_init 43 = .ok (.aload_n 0, 1) := by decide +kernel
theorem dX2_init_44 : decode cX2_init 44 = .ok (.iconst 0, 1) := by decide +kernel
theorem dX2_init_45 : decode cX2_init 45 = .ok (.putfield 28, 3) := by decide +kernel
theorem dX2_init_48 : decode cX2_init 48 = .ok (.aload_n 0, 1) := by decide +kernel
theorem dX2_init_49 : decode cX2_init 49 = .ok (.iconst 0, 1) := by decide +kernel
theorem dX2_init_50 : decode cX2_init 50 = .ok (.putfield 32, 3) := by decide +kernel
theorem dX2_init_53 : decode cX2_init 53 = .ok (.aload_n 0, 1) := by decide +kernel
theorem dX2_init_54 : decode cX2_init 54 = .ok (.invokevirtual 35, 3) := by decide +kernel
theorem dX2_init_57 : decode cX2_init 57 = .ok (.return_, 1) := by decide +kernel
theorem dX2_empty_0 : decode cX2_empty 0 = .ok (.getstatic 38, 3) := by decide +kernel
theorem dX2_empty_3 : decode cX2_empty 3 = .ok (.iconst 0, 1) := by decide +kernel
theorem dX2_empty_4 : decode cX2_empty 4 = .ok (.aload_n 0, 1) := by decide +kernel
theorem dX2_empty_5 : decode cX2_empty 5 = .ok (.getfield 9, 3) := by decide +kernel
theorem dX2_empty_8 : decode cX2_empty 8 = .ok (.iconst 0, 1) := by decide +kernel
theorem dX2_empty_9 : decode cX2_empty 9 = .ok (.iconst 5, 1) := by decide +kernel
theorem dX2_empty_10 : decode cX2_empty 10 = .ok (.invokestatic 41, 3) := by decide +kernel
theorem dX2_empty_13 : decode cX2_empty 13 = .ok (.aload_n 0, 1) := by decide +kernel
theorem dX2_empty_14 : decode cX2_empty 14 = .ok (.iconst 0, 1) := by decide +kernel
theorem dX2_empty_15 : decode cX2_empty 15 = .ok (.putfield 28, 3) := by decide +kernel
theorem dX2_empty_18 : decode cX2_empty 18 = .ok (.aload_n 0, 1) := by decide +kernel
theorem dX2_empty_19 : decode cX2_empty 19 = .ok (.iconst 0, 1) := by decide +kernel
theorem dX2_empty_20 : decode cX2_empty 20 = .ok (.putfield 32, 3) := by decide +kernel
theorem dX2_empty_23 : decode cX2_empty 23 = .ok (.return_, 1) := by decide +kernel
theorem dX2_put_0 : decode cX2_put 0 = .ok (.aload_n 0, 1) := by decide +kernel
theorem dX2_put_1 : decode cX2_put 1 = .ok (.getfield 32, 3) := by decide +kernel
theorem dX2_put_4 : decode cX2_put 4 = .ok (.ifCond .lt 15, 3) := by decide +kernel
theorem dX2_put_7 : decode cX2_put 7 = .ok (.aload_n 0, 1) := by decide +kernel
theorem dX2_put_8 : decode cX2_put 8 = .ok (.getfield 32, 3) := by decide +kernel
theorem dX2_put_11 : decode cX2_put 11 = .ok (.aload_n 0, 1) := by decide +kernel
theorem dX2_put_12 : decode cX2_put 12 = .ok (.getfield 15, 3) := by decide +kernel
theorem dX2_put_15 : decode cX2_put 15 = .ok (.arraylength, 1) := by decide +kernel
theorem dX2_put_16 : decode cX2_put 16 = .ok (.if_icmp .lt 4, 3) := by decide +kernel
theorem dX2_put_19 : decode cX2_put 19 = .ok (.return_, 1) := by decide +kernel
theorem dX2_put_20 : decode cX2_put 20 = .ok (.aload_n 0, 1) := by decide +kernel
theorem dX2_put_21 : decode cX2_put 21 = .ok (.getfield 15, 3) := by decide +kernel
theorem dX2_put_24 : decode cX2_put 24 = .ok (.aload_n 0, 1) := by decide +kernel
theorem dX2_put_25 : decode cX2_put 25 = .ok (.getfield 32, 3) := by decide +kernel
theorem dX2_put_28 : decode cX2_put 28 = .ok (.iload_n 1, 1) := by decide +kernel
theorem dX2_put_29 : decode cX2_put 29 = .ok (.iastore, 1) := by decide +kernel
theorem dX2_put_30 : decode cX2_put 30 = .ok (.aload_n 0, 1) := by decide +kernel
theorem dX2_put_31 : decode cX2_put 31 = .ok (.dup, 1) := by decide +kernel
theorem dX2_put_32 : decode cX2_put 32 = .ok (.getfield 32, 3) := by decide +kernel
theorem dX2_put_35 : decode cX2_put 35 = .ok (.iconst 1, 1) := by decide +kernel
theorem dX2_put_36 : decode cX2_put 36 = .ok (.iadd, 1) := by decide +kernel
theorem dX2_put_37 : decode cX2_put 37 = .ok (.putfield 32, 3) := by decide +kernel
theorem dX2_put_40 : decode cX2_put 40 = .ok (.return_, 1) := by decide +kernel
theorem dX2_close_0 : decode cX2_close 0 = .ok (.aload_n 0, 1) := by decide +kernel
theorem dX2_close_1 : decode cX2_close 1 = .ok (.getfield 28, 3) := by decide +kernel
theorem dX2_close_4 : decode cX2_close 4 = .ok (.ifCond .lt 12, 3) := by decide +kernel
theorem dX2_close_7 : decode cX2_close 7 = .ok (.aload_n 0, 1) := by decide +kernel
theorem dX2_close_8 : decode cX2_close 8 = .ok (.getfield 28, 3) := by decide +kernel
theorem dX2_close_11 : decode cX2_close 11 = .ok (.bipush 10, 2) := by decide +kernel
theorem dX2_close_13 : decode cX2_close 13 = .ok (.if_icmp .lt 4, 3) := by decide +kernel
theorem dX2_close_16 : decode cX2_close 16 = .ok (.return_, 1) := by decide +kernel
theorem dX2_close_17 : decode cX2_close 17 = .ok (.aload_n 0, 1) := by decide +kernel
theorem dX2_close_18 : decode cX2_close 18 = .ok (.getfield 18, 3) := by decide +kernel
theorem dX2_close_21 : decode cX2_close 21 = .ok (.aload_n 0, 1) := by decide +kernel
theorem dX2_close_22 : decode cX2_close 22 = .ok (.getfield 28, 3) := by decide +kernel
theorem dX2_close_25 : decode cX2_close 25 = .ok (.iload_n 1, 1) := by decide +kernel
theorem dX2_close_26 : decode cX2_close 26 = .ok (.bastore, 1) := by decide +kernel
theorem dX2_close_27 : decode cX2_close 27 = .ok (.aload_n 0, 1) := by decide +kernel
theorem dX2_close_28 : decode cX2_close 28 = .ok (.getfield 22, 3) := by decide +kernel
theorem dX2_close_31 : decode cX2_close 31 = .ok (.aload_n 0, 1) := by decide +kernel
theorem dX2_close_32 : decode cX2_close 32 = .ok (.getfield 28, 3) := by decide +kernel
theorem dX2_close_35 : decode cX2_close 35 = .ok (.iload_n 2, 1) := by decide +kernel
theorem dX2_close_36 : decode cX2_close 36 = .ok (.iastore, 1) := by decide +kernel
theorem dX2_close_37 : decode cX2_close 37 = .ok (.aload_n 0, 1) := by decide +kernel
theorem dX2_close_38 : decode cX2_close 38 = .ok (.getfield 25, 3) := by decide +kernel
theorem dX2_close_41 : decode cX2_close 41 = .ok (.aload_n 0, 1) := by decide +kernel
theorem dX2_close_42 : decode cX2_close 42 = .ok (.getfield 28, 3) := by decide +kernel
theorem dX2_close_45 : decode cX2_close 45 = .ok (.aload_n 0, 1) := by decide +kernel
theorem dX2_close_46 : decode cX2_close 46 = .ok (.getfield 32, 3) := by decide +kernel
theorem dX2_close_49 : decode cX2_close 49 = .ok (.iastore, 1) := by decide +kernel
theorem dX2_close_50 : decode cX2_close 50 = .ok (.aload_n 0, 1) := by decide +kernel
theorem dX2_close_51 : decode cX2_close 51 = .ok (.dup, 1) := by decide +kernel
theorem dX2_close_52 : decode cX2_close 52 = .ok (.getfield 28, 3) := by decide +kernel
theorem dX2_close_55 : decode cX2_close 55 = .ok (.iconst 1, 1) := by decide +kernel
theorem dX2_close_56 : decode cX2_close 56 = .ok (.iadd, 1) := by decide +kernel
theorem dX2_close_57 : decode cX2_close 57 = .ok (.putfield 28, 3) := by decide +kernel
theorem dX2_close_60 : decode cX2_close 60 = .ok (.return_, 1) := by decide +kernel
theorem dX2_copy_0 : decode cX2_copy 0 = .ok (.aload_n 1, 1) := by decide +kernel
theorem dX2_copy_1 : decode cX2_copy 1 = .ok (.getfield 9, 3) := by decide +kernel
theorem dX2_copy_4 : decode cX2_copy 4 = .ok (.iconst 0, 1) := by decide +kernel
theorem dX2_copy_5 : decode cX2_copy 5 = .ok (.aload_n 0, 1) := by decide +kernel
theorem dX2_copy_6 : decode cX2_copy 6 = .ok (.getfield 9, 3) := by decide +kernel
theorem dX2_copy_9 : decode cX2_copy 9 = .ok (.iconst 0, 1) := by decide +kernel
theorem dX2_copy_10 : decode cX2_copy 10 = .ok (.iconst 5, 1) := by decide +kernel
theorem dX2_copy_11 : decode cX2_copy 11 = .ok (.invokestatic 41, 3) := by decide +kernel
theorem dX2_copy_14 : decode cX2_copy 14 = .ok (.aload_n 1, 1) := by decide +kernel
theorem dX2_copy_15 : decode cX2_copy 15 = .ok (.getfield 15, 3) := by decide +kernel
theorem dX2_copy_18 : decode cX2_copy 18 = .ok (.iconst 0, 1) := by decide +kernel
theorem dX2_copy_19 : decode cX2_copy 19 = .ok (.aload_n 0, 1) := by decide +kernel
theorem dX2_copy_20 : decode cX2_copy 20 = .ok (.getfield 15, 3) := by decide +kernel
theorem dX2_copy_23 : decode cX2_copy 23 = .ok (.iconst 0, 1) := by decide +kernel
theorem dX2_copy_24 : decode cX2_copy 24 = .ok (.bipush 120, 2) := by decide +kernel
theorem dX2_copy_26 : decode cX2_copy 26 = .ok (.invokestatic 41, 3) := by decide +kernel
theorem dX2_copy_29 : decode cX2_copy 29 = .ok (.aload_n 1, 1) := by decide +kernel
theorem dX2_copy_30 : decode cX2_copy 30 = .ok (.getfield 18, 3) := by decide +kernel
theorem dX2_copy_33 : decode cX2_copy 33 = .ok (.iconst 0, 1) := by decide +kernel
theorem dX2_copy_34 : decode cX2_copy 34 = .ok (.aload_n 0, 1) := by decide +kernel
theorem dX2_copy_35 : decode cX2_copy 35 = .ok (.getfield 18, 3) := by decide +kernel
theorem dX2_copy_38 : decode cX2_copy 38 = .ok (.iconst 0, 1) := by decide +kernel
theorem dX2_copy_39 : decode cX2_copy 39 = .ok (.bipush 10, 2) := by decide +kernel
theorem dX2_copy_41 : decode cX2_copy 41 = .ok (.invokestatic 41, 3) := by decide +kernel
theorem dX2_copy_44 : decode cX2_copy 44 = .ok (.aload_n 1, 1) := by decide +kernel
theorem dX2_copy_45 : decode cX2_copy 45 = .ok (.getfield 22, 3) := by decide +kernel
theorem dX2_copy_48 : decode cX2_copy 48 = .ok (.iconst 0, 1) := by decide +kernel
theorem dX2_copy_49 : decode cX2_copy 49 = .ok (.aload_n 0, 1) := by decide +kernel
theorem dX2_copy_50 : decode cX2_copy 50 = .ok (.getfield 22, 3) := by decide +kernel
theorem dX2_copy_53 : decode cX2_copy 53 = .ok (.iconst 0, 1) := by decide +kernel
theorem dX2_copy_54 : decode cX2_copy 54 = .ok (.bipush 10, 2) := by decide +kernel
theorem dX2_copy_56 : decode cX2_copy 56 = .ok (.invokestatic 41, 3) := by decide +kernel
theorem dX2_copy_59 : decode cX2_copy 59 = .ok (.aload_n 1, 1) := by decide +kernel
theorem dX2_copy_60 : decode cX2_copy 60 = .ok (.getfield 25, 3) := by decide +kernel
theorem dX2_copy_63 : decode cX2_copy 63 = .ok (.iconst 0, 1) := by decide +kernel
theorem dX2_copy_64 : decode cX2_copy 64 = .ok (.aload_n 0, 1) := by decide +kernel
theorem dX2_copy_65 : decode cX2_copy 65 = .ok (.getfield 25, 3) := by decide +kernel
theorem dX2_copy_68 : decode cX2_copy 68 = .ok (.iconst 0, 1) := by decide +kernel
theorem dX2_copy_69 : decode cX2_copy 69 = .ok (.bipush 10, 2) := by decide +kernel
theorem dX2_copy_71 : decode cX2_copy 71 = .ok (.invokestatic 41, 3) := by decide +kernel
theorem dX2_copy_74 : decode cX2_copy 74 = .ok (.aload_n 0, 1) := by decide +kernel
theorem dX2_copy_75 : decode cX2_copy 75 = .ok (.aload_n 1, 1) := by decide +kernel
theorem dX2_copy_76 : decode cX2_copy 76 = .ok (.getfield 28, 3) := by decide +kernel
theorem dX2_copy_79 : decode cX2_copy 79 = .ok (.putfield 28, 3) := by decide +kernel
theorem dX2_copy_82 : decode cX2_copy 82 = .ok (.aload_n 0, 1) := by decide +kernel
theorem dX2_copy_83 : decode cX2_copy 83 = .ok (.aload_n 1, 1) := by decide +kernel
theorem dX2_copy_84 : decode cX2_copy 84 = .ok (.getfield 32, 3) := by decide +kernel
theorem dX2_copy_87 : decode cX2_copy 87 = .ok (.putfield 32, 3) := by decide +kernel
theorem dX2_copy_90 : decode cX2_copy 90 = .ok (.return_, 1) := by decide +kernel
theorem dX3_init_0 : decode cX3_init 0 = .ok (.aload_n 0, 1) := by decide +kernel
theorem dX3_init_1 : decode cX3_init 1 = .ok (.invokespecial 3, 3) := by decide +kernel
theorem dX3_init_4 : decode cX3_init 4 = .ok (.aload_n 0, 1) := by decide +kernel
theorem dX3_init_5 : decode cX3_init 5 = .ok (.bipush 10, 2) := by decide +kernel
theorem dX3_init_7 : decode cX3_init 7 = .ok (.newarray .int, 2) := by decide +kernel
theorem dX3_init_9 : decode cX3_init 9 = .ok (.putfield 9, 3) := by decide +kernel
theorem dX3_init_12 : decode cX3_init 12 = .ok (.aload_n 0, 1) := by decide +kernel
theorem dX3_init_13 : decode cX3_init 13 = .ok (.bipush 10, 2) := by decide +kernel
theorem dX3_init_15 : decode cX3_init 15 = .ok (.newarray .int, 2) := by decide +kernel
theorem dX3_init_17 : decode cX3_init 17 = .ok (.putfield 15, 3) := by decide +kernel
theorem dX3_init_20 : decode cX3_init 20 = .ok (.aload_n 0, 1) := by decide +kernel
theorem dX3_init_21 : decode cX3_init 21 = .ok (.bipush 10, 2) := by decide +kernel
theorem dX3_init_23 : decode cX3_init 23 = .ok (.newarray .int, 2) := by decide +kernel
theorem dX3_init_25 : decode cX3_init 25 = .ok (.putfield 18, 3) := by decide +kernel
theorem dX3_init_28 : decode cX3_init 28 = .ok (.aload_n 0, 1) := by decide +kernel
theorem dX3_init_29 : decode cX3_init 29 = .ok (.bipush 10, 2) := by decide +kernel
theorem dX3_init_31 : decode cX3_init 31 = .ok (.newarray .int, 2) := by decide +kernel
theorem dX3_init_33 : decode cX3_init 33 = .ok (.putfield 21, 3) := by decide +kernel
theorem dX3_init_36 : decode cX3_init 36 = .ok (.aload_n 0, 1) := by decide +kernel
theorem dX3_init_37 : decode cX3_init 37 = .ok (.iconst 0, 1) := by decide +kernel
theorem dX3_init_38 : decode cX3_init 38 = .ok (.putfield 24, 3) := by decide +kernel
theorem dX3_init_41 : decode cX3_init 41 = .ok (.aload_n 0, 1) := by decide +kernel
theorem dX3_init_42 : decode cX3_init 42 = .ok (.iconst 0, 1) := by decide +kernel
theorem dX3_init_43 : decode cX3_init 43 = .ok (.putfield 28, 3) := by decide +kernel
theorem dX3_init_46 : decode cX3_init 46 = .ok (.return_, 1) := by decide +kernel
theorem dX3_has_0 : decode cX3_has 0 = .ok (.iload_n 1, 1) := by decide +kernel
theorem dX3_has_1 : decode cX3_has 1 = .ok (.ifCond .lt 15, 3) := by decide +kernel
theorem dX3_has_4 : decode cX3_has 4 = .ok (.iload_n 1, 1) := by decide +kernel
theorem dX3_has_5 : decode cX3_has 5 = .ok (.aload_n 0, 1) := by decide +kernel
theorem dX3_has_6 : decode cX3_has 6 = .ok (.getfield 28, 3) := by decide +kernel
theorem dX3_has_9 : decode cX3_has 9 = .ok (.if_icmp .ge 7, 3) := by decide +kernel
theorem dX3_has_12 : decode cX3_has 12 = .ok (.iconst 1, 1) := by decide +kernel
theorem dX3_has_13 : decode cX3_has 13 = .ok (.goto 4, 3) := by decide +kernel
theorem dX3_has_16 : decode cX3_has 16 = .ok (.iconst 0, 1) := by decide +kernel
theorem dX3_has_17 : decode cX3_has 17 = .ok (.ireturn, 1) := by decide +kernel
theorem dX3_isLoose_0 : decode cX3_isLoose 0 = .ok (.aload_n 0, 1) := by decide +kernel
theorem dX3_isLoose_1 : decode cX3_isLoose 1 = .ok (.getfield 24, 3) := by decide +kernel
theorem dX3_isLoose_4 : decode cX3_isLoose 4 = .ok (.iload_n 1, 1) := by decide +kernel
theorem dX3_isLoose_5 : decode cX3_isLoose 5 = .ok (.ishr, 1) := by decide +kernel
theorem dX3_isLoose_6 : decode cX3_isLoose 6 = .ok (.iconst 1, 1) := by decide +kernel
theorem dX3_isLoose_7 : decode cX3_isLoose 7 = .ok (.iand, 1) := by decide +kernel
theorem dX3_isLoose_8 : decode cX3_isLoose 8 = .ok (.ifCond .ne 7, 3) := by decide +kernel
theorem dX3_isLoose_11 : decode cX3_isLoose 11 = .ok (.iconst 1, 1) := by decide +kernel
theorem dX3_isLoose_12 : decode cX3_isLoose 12 = .ok (.goto 4, 3) := by decide +kernel
theorem dX3_isLoose_15 : decode cX3_isLoose 15 = .ok (.iconst 0, 1) := by decide +kernel
theorem dX3_isLoose_16 : decode cX3_isLoose 16 = .ok (.ireturn, 1) := by decide +kernel
theorem dX3_loose_0 : decode cX3_loose 0 = .ok (.iconst 1, 1) := by decide +kernel
theorem dX3_loose_1 : decode cX3_loose 1 = .ok (.aload_n 0, 1) := by decide +kernel
theorem dX3_loose_2 : decode cX3_loose 2 = .ok (.getfield 28, 3) := by decide +kernel
theorem dX3_loose_5 : decode cX3_loose 5 = .ok (.ishl, 1) := by decide +kernel
theorem dX3_loose_6 : decode cX3_loose 6 = .ok (.iconst 1, 1) := by decide +kernel
theorem dX3_loose_7 : decode cX3_loose 7 = .ok (.isub, 1) := by decide +kernel
theorem dX3_loose_8 : decode cX3_loose 8 = .ok (.aload_n 0, 1) := by decide +kernel
theorem dX3_loose_9 : decode cX3_loose 9 = .ok (.getfield 24, 3) := by decide +kernel
theorem dX3_loose_12 : decode cX3_loose 12 = .ok (.iconst (-1), 1) := by decide +kernel
theorem dX3_loose_13 : decode cX3_loose 13 = .ok (.ixor, 1) := by decide +kernel
theorem dX3_loose_14 : decode cX3_loose 14 = .ok (.iand, 1) := by decide +kernel
theorem dX3_loose_15 : decode cX3_loose 15 = .ok (.ireturn, 1) := by decide +kernel
theorem dX3_add_0 : decode cX3_add 0 = .ok (.aload_n 0, 1) := by decide +kernel
theorem dX3_add_1 : decode cX3_add 1 = .ok (.getfield 28, 3) := by decide +kernel
theorem dX3_add_4 : decode cX3_add 4 = .ok (.ifCond .lt 12, 3) := by decide +kernel
theorem dX3_add_7 : decode cX3_add 7 = .ok (.aload_n 0, 1) := by decide +kernel
theorem dX3_add_8 : decode cX3_add 8 = .ok (.getfield 28, 3) := by decide +kernel
theorem dX3_add_11 : decode cX3_add 11 = .ok (.bipush 10, 2) := by decide +kernel
theorem dX3_add_13 : decode cX3_add 13 = .ok (.if_icmp .lt 6, 3) := by decide +kernel
theorem dX3_add_16 : decode cX3_add 16 = .ok (.bipush (-4), 2) := by decide +kernel
theorem dX3_add_18 : decode cX3_add 18 = .ok (.ireturn, 1) := by decide +kernel
theorem dX3_add_19 : decode cX3_add 19 = .ok (.aload_n 0, 1) := by decide +kernel
theorem dX3_add_20 : decode cX3_add 20 = .ok (.getfield 9, 3) := by decide +kernel
theorem dX3_add_23 : decode cX3_add 23 = .ok (.aload_n 0, 1) := by decide +kernel
theorem dX3_add_24 : decode cX3_add 24 = .ok (.getfield 28, 3) := by decide +kernel
theorem dX3_add_27 : decode cX3_add 27 = .ok (.iload_n 1, 1) := by decide +kernel
theorem dX3_add_28 : decode cX3_add 28 = .ok (.iastore, 1) := by decide +kernel
theorem dX3_add_29 : decode cX3_add 29 = .ok (.aload_n 0, 1) := by decide +kernel
theorem dX3_add_30 : decode cX3_add 30 = .ok (.getfield 15, 3) := by decide +kernel
theorem dX3_add_33 : decode cX3_add 33 = .ok (.aload_n 0, 1) := by decide +kernel
theorem dX3_add_34 : decode cX3_add 34 = .ok (.getfield 28, 3) := by decide +kernel
theorem dX3_add_37 : decode cX3_add 37 = .ok (.iload_n 2, 1) := by decide +kernel
theorem dX3_add_38 : decode cX3_add 38 = .ok (.iastore, 1) := by decide +kernel
theorem dX3_add_39 : decode cX3_add 39 = .ok (.aload_n 0, 1) := by decide +kernel
theorem dX3_add_40 : decode cX3_add 40 = .ok (.getfield 18, 3) := by decide +kernel
theorem dX3_add_43 : decode cX3_add 43 = .ok (.aload_n 0, 1) := by decide +kernel
theorem dX3_add_44 : decode cX3_add 44 = .ok (.getfield 28, 3) := by decide +kernel
theorem dX3_add_47 : decode cX3_add 47 = .ok (.iload_n 3, 1) := by decide +kernel
theorem dX3_add_48 : decode cX3_add 48 = .ok (.iastore, 1) := by decide +kernel
theorem dX3_add_49 : decode cX3_add 49 = .ok (.aload_n 0, 1) := by decide +kernel
theorem dX3_add_50 : decode cX3_add 50 = .ok (.getfield 21, 3) := by decide +kernel
theorem dX3_add_53 : decode cX3_add 53 = .ok (.aload_n 0, 1) := by decide +kernel
theorem dX3_add_54 : decode cX3_add 54 = .ok (.getfield 28, 3) := by decide +kernel
theorem dX3_add_57 : decode cX3_add 57 = .ok (.iload 4, 2) := by decide +kernel
theorem dX3_add_59 : decode cX3_add 59 = .ok (.iastore, 1) := by decide +kernel
theorem dX3_add_60 : decode cX3_add 60 = .ok (.aload_n 0, 1) := by decide +kernel
theorem dX3_add_61 : decode cX3_add 61 = .ok (.dup, 1) := by decide +kernel
theorem dX3_add_62 : decode cX3_add 62 = .ok (.getfield 28, 3) := by decide +kernel
theorem dX3_add_65 : decode cX3_add 65 = .ok (.dup_x1, 1) := by decide +kernel
theorem dX3_add_66 : decode cX3_add 66 = .ok (.iconst 1, 1) := by decide +kernel
theorem dX3_add_67 : decode cX3_add 67 = .ok (.iadd, 1) := by decide +kernel
theorem dX3_add_68 : decode cX3_add 68 = .ok (.putfield 28, 3) := by decide +kernel
theorem dX3_add_71 : decode cX3_add 71 = .ok (.ireturn, 1) := by decide +kernel
theorem dX3_copy_0 : decode cX3_copy 0 = .ok (.aload_n 1, 1) := by decide +kernel
theorem dX3_copy_1 : decode cX3_copy 1 = .ok (.getfield 9, 3) := by decide +kernel
theorem dX3_copy_4 : decode cX3_copy 4 = .ok (.iconst 0, 1) := by decide +kernel
theorem dX3_copy_5 : decode cX3_copy 5 = .ok (.aload_n 0, 1) := by decide +kernel
theorem dX3_copy_6 : decode cX3_copy 6 = .ok (.getfield 9, 3) := by decide +kernel
theorem dX3_copy_9 : decode cX3_copy 9 = .ok (.iconst 0, 1) := by decide +kernel
theorem dX3_copy_10 : decode cX3_copy 10 = .ok (.bipush 10, 2) := by decide +kernel
theorem dX3_copy_12 : decode cX3_copy 12 = .ok (.invokestatic 31, 3) := by decide +kernel
theorem dX3_copy_15 : decode cX3_copy 15 = .ok (.aload_n 1, 1) := by decide +kernel
theorem dX3_copy_16 : decode cX3_copy 16 = .ok (.getfield 15, 3) := by decide +kernel
theorem dX3_copy_19 : decode cX3_copy 19 = .ok (.iconst 0, 1) := by decide +kernel
theorem dX3_copy_20 : decode cX3_copy 20 = .ok (.aload_n 0, 1) := by decide +kernel
theorem dX3_copy_21 : decode cX3_copy 21 = .ok (.getfield 15, 3) := by decide +kernel
theorem dX3_copy_24 : decode cX3_copy 24 = .ok (.iconst 0, 1) := by decide +kernel
theorem dX3_copy_25 : decode cX3_copy 25 = .ok (.bipush 10, 2) := by decide +kernel
theorem dX3_copy_27 : decode cX3_copy 27 = .ok (.invokestatic 31, 3) := by decide +kernel
theorem dX3_copy_30 : decode cX3_copy 30 = .ok (.aload_n 1, 1) := by decide +kernel
theorem dX3_copy_31 : decode cX3_copy 31 = .ok (.getfield 18, 3) := by decide +kernel
theorem dX3_copy_34 : decode cX3_copy 34 = .ok (.iconst 0, 1) := by decide +kernel
theorem dX3_copy_35 : decode cX3_copy 35 = .ok (.aload_n 0, 1) := by decide +kernel
theorem dX3_copy_36 : decode cX3_copy 36 = .ok (.getfield 18, 3) := by decide +kernel
theorem dX3_copy_39 : decode cX3_copy 39 = .ok (.iconst 0, 1) := by decide +kernel
theorem dX3_copy_40 : decode cX3_copy 40 = .ok (.bipush 10, 2) := by decide +kernel
theorem dX3_copy_42 : decode cX3_copy 42 = .ok (.invokestatic 31, 3) := by decide +kernel
theorem dX3_copy_45 : decode cX3_copy 45 = .ok (.aload_n 1, 1) := by decide +kernel
theorem dX3_copy_46 : decode cX3_copy 46 = .ok (.getfield 21, 3) := by decide +kernel
theorem dX3_copy_49 : decode cX3_copy 49 = .ok (.iconst 0, 1) := by decide +kernel
theorem dX3_copy_50 : decode cX3_copy 50 = .ok (.aload_n 0, 1) := by decide +kernel
theorem dX3_copy_51 : decode cX3_copy 51 = .ok (.getfield 21, 3) := by decide +kernel
theorem dX3_copy_54 : decode cX3_copy 54 = .ok (.iconst 0, 1) := by decide +kernel
theorem dX3_copy_55 : decode cX3_copy 55 = .ok (.bipush 10, 2) := by decide +kernel
theorem dX3_copy_57 : decode cX3_copy 57 = .ok (.invokestatic 31, 3) := by decide +kernel
theorem dX3_copy_60 : decode cX3_copy 60 = .ok (.aload_n 0, 1) := by decide +kernel
theorem dX3_copy_61 : decode cX3_copy 61 = .ok (.aload_n 1, 1) := by decide +kernel
theorem dX3_copy_62 : decode cX3_copy 62 = .ok (.getfield 24, 3) := by decide +kernel
theorem dX3_copy_65 : decode cX3_copy 65 = .ok (.putfield 24, 3) := by decide +kernel
theorem dX3_copy_68 : decode cX3_copy 68 = .ok (.aload_n 0, 1) := by decide +kernel
theorem dX3_copy_69 : decode cX3_copy 69 = .ok (.aload_n 1, 1) := by decide +kernel
theorem dX3_copy_70 : decode cX3_copy 70 = .ok (.getfield 28, 3) := by decide +kernel
theorem dX3_copy_73 : decode cX3_copy 73 = .ok (.putfield 28, 3) := by decide +kernel
theorem dX3_copy_76 : decode cX3_copy 76 = .ok (.return_, 1) := by decide +kernel
theorem dX4_init_0 : decode cX4_init 0 = .ok (.aload_n 0, 1) := by decide +kernel
theorem dX4_init_1 : decode cX4_init 1 = .ok (.invokespecial 3, 3) := by decide +kernel
theorem dX4_init_4 : decode cX4_init 4 = .ok (.aload_n 0, 1) := by decide +kernel
theorem dX4_init_5 : decode cX4_init 5 = .ok (.bipush 12, 2) := by decide +kernel
theorem dX4_init_7 : decode cX4_init 7 = .ok (.newarray .int, 2) := by decide +kernel
theorem dX4_init_9 : decode cX4_init 9 = .ok (.putfield 9, 3) := by decide +kernel
theorem dX4_init_12 : decode cX4_init 12 = .ok (.aload_n 0, 1) := by decide +kernel
theorem dX4_init_13 : decode cX4_init 13 = .ok (.bipush 12, 2) := by decide +kernel
theorem dX4_init_15 : decode cX4_init 15 = .ok (.newarray .int, 2) := by decide +kernel
theorem dX4_init_17 : decode cX4_init 17 = .ok (.putfield 15, 3) := by decide +kernel
theorem dX4_init_20 : decode cX4_init 20 = .ok (.aload_n 0, 1) := by decide +kernel
theorem dX4_init_21 : decode cX4_init 21 = .ok (.bipush 12, 2) := by decide +kernel
theorem dX4_init_23 : decode cX4_init 23 = .ok (.newarray .int, 2) := by decide +kernel
theorem dX4_init_25 : decode cX4_init 25 = .ok (.putfield 18, 3) := by decide +kernel
theorem dX4_init_28 : decode cX4_init 28 = .ok (.aload_n 0, 1) := by decide +kernel
theorem dX4_init_29 : decode cX4_init 29 = .ok (.iconst 0, 1) := by decide +kernel
theorem dX4_init_30 : decode cX4_init 30 = .ok (.putfield 21, 3) := by decide +kernel
theorem dX4_init_33 : decode cX4_init 33 = .ok (.return_, 1) := by decide +kernel
theorem dX4_add_0 : decode cX4_add 0 = .ok (.aload_n 0, 1) := by decide +kernel
theorem dX4_add_1 : decode cX4_add 1 = .ok (.getfield 21, 3) := by decide +kernel
theorem dX4_add_4 : decode cX4_add 4 = .ok (.ifCond .lt 12, 3) := by decide +kernel
theorem dX4_add_7 : decode cX4_add 7 = .ok (.aload_n 0, 1) := by decide +kernel
theorem dX4_add_8 : decode cX4_add 8 = .ok (.getfield 21, 3) := by decide +kernel
theorem dX4_add_11 : decode cX4_add 11 = .ok (.bipush 12, 2) := by decide +kernel
theorem dX4_add_13 : decode cX4_add 13 = .ok (.if_icmp .lt 6, 3) := by decide +kernel
theorem dX4_add_16 : decode cX4_add 16 = .ok (.bipush (-4), 2) := by decide +kernel
theorem dX4_add_18 : decode cX4_add 18 = .ok (.ireturn, 1) := by decide +kernel
theorem dX4_add_19 : decode cX4_add 19 = .ok (.aload_n 0, 1) := by decide +kernel
theorem dX4_add_20 : decode cX4_add 20 = .ok (.getfield 9, 3) := by decide +kernel
theorem dX4_add_23 : decode cX4_add 23 = .ok (.aload_n 0, 1) := by decide +kernel
theorem dX4_add_24 : decode cX4_add 24 = .ok (.getfield 21, 3) := by decide +kernel
theorem dX4_add_27 : decode cX4_add 27 = .ok (.iload_n 1, 1) := by decide +kernel
theorem dX4_add_28 : decode cX4_add 28 = .ok (.iastore, 1) := by decide +kernel
theorem dX4_add_29 : decode cX4_add 29 = .ok (.aload_n 0, 1) := by decide +kernel
theorem dX4_add_30 : decode cX4_add 30 = .ok (.getfield 15, 3) := by decide +kernel
theorem dX4_add_33 : decode cX4_add 33 = .ok (.aload_n 0, 1) := by decide +kernel
theorem dX4_add_34 : decode cX4_add 34 = .ok (.getfield 21, 3) := by decide +kernel
theorem dX4_add_37 : decode cX4_add 37 = .ok (.iload_n 2, 1) := by decide +kernel
theorem dX4_add_38 : decode cX4_add 38 = .ok (.iastore, 1) := by decide +kernel
theorem dX4_add_39 : decode cX4_add 39 = .ok (.aload_n 0, 1) := by decide +kernel
theorem dX4_add_40 : decode cX4_add 40 = .ok (.getfield 18, 3) := by decide +kernel
theorem dX4_add_43 : decode cX4_add 43 = .ok (.aload_n 0, 1) := by decide +kernel
theorem dX4_add_44 : decode cX4_add 44 = .ok (.getfield 21, 3) := by decide +kernel
theorem dX4_add_47 : decode cX4_add 47 = .ok (.iload_n 3, 1) := by decide +kernel
theorem dX4_add_48 : decode cX4_add 48 = .ok (.iastore, 1) := by decide +kernel
theorem dX4_add_49 : decode cX4_add 49 = .ok (.aload_n 0, 1) := by decide +kernel
theorem dX4_add_50 : decode cX4_add 50 = .ok (.dup, 1) := by decide +kernel
theorem dX4_add_51 : decode cX4_add 51 = .ok (.getfield 21, 3) := by decide +kernel
theorem dX4_add_54 : decode cX4_add 54 = .ok (.iconst 1, 1) := by decide +kernel
theorem dX4_add_55 : decode cX4_add 55 = .ok (.iadd, 1) := by decide +kernel
theorem dX4_add_56 : decode cX4_add 56 = .ok (.putfield 21, 3) := by decide +kernel
theorem dX4_add_59 : decode cX4_add 59 = .ok (.aload_n 0, 1) := by decide +kernel
theorem dX4_add_60 : decode cX4_add 60 = .ok (.getfield 21, 3) := by decide +kernel
theorem dX4_add_63 : decode cX4_add 63 = .ok (.ireturn, 1) := by decide +kernel
theorem dX4_copy_0 : decode cX4_copy 0 = .ok (.aload_n 1, 1) := by decide +kernel
theorem dX4_copy_1 : decode cX4_copy 1 = .ok (.getfield 9, 3) := by decide +kernel
theorem dX4_copy_4 : decode cX4_copy 4 = .ok (.iconst 0, 1) := by decide +kernel
theorem dX4_copy_5 : decode cX4_copy 5 = .ok (.aload_n 0, 1) := by decide +kernel
theorem dX4_copy_6 : decode cX4_copy 6 = .ok (.getfield 9, 3) := by decide +kernel
theorem dX4_copy_9 : decode cX4_copy 9 = .ok (.iconst 0, 1) := by decide +kernel
theorem dX4_copy_10 : decode cX4_copy 10 = .ok (.bipush 12, 2) := by decide +kernel
theorem dX4_copy_12 : decode cX4_copy 12 = .ok (.invokestatic 25, 3) := by decide +kernel
theorem dX4_copy_15 : decode cX4_copy 15 = .ok (.aload_n 1, 1) := by decide +kernel
theorem dX4_copy_16 : decode cX4_copy 16 = .ok (.getfield 15, 3) := by decide +kernel
theorem dX4_copy_19 : decode cX4_copy 19 = .ok (.iconst 0, 1) := by decide +kernel
theorem dX4_copy_20 : decode cX4_copy 20 = .ok (.aload_n 0, 1) := by decide +kernel
theorem dX4_copy_21 : decode cX4_copy 21 = .ok (.getfield 15, 3) := by decide +kernel
theorem dX4_copy_24 : decode cX4_copy 24 = .ok (.iconst 0, 1) := by decide +kernel
theorem dX4_copy_25 : decode cX4_copy 25 = .ok (.bipush 12, 2) := by decide +kernel
theorem dX4_copy_27 : decode cX4_copy 27 = .ok (.invokestatic 25, 3) := by decide +kernel
theorem dX4_copy_30 : decode cX4_copy 30 = .ok (.aload_n 1, 1) := by decide +kernel
theorem dX4_copy_31 : decode cX4_copy 31 = .ok (.getfield 18, 3) := by decide +kernel
theorem dX4_copy_34 : decode cX4_copy 34 = .ok (.iconst 0, 1) := by decide +kernel
theorem dX4_copy_35 : decode cX4_copy 35 = .ok (.aload_n 0, 1) := by decide +kernel
theorem dX4_copy_36 : decode cX4_copy 36 = .ok (.getfield 18, 3) := by decide +kernel
theorem dX4_copy_39 : decode cX4_copy 39 = .ok (.iconst 0, 1) := by decide +kernel
theorem dX4_copy_40 : decode cX4_copy 40 = .ok (.bipush 12, 2) := by decide +kernel
theorem dX4_copy_42 : decode cX4_copy 42 = .ok (.invokestatic 25, 3) := by decide +kernel
theorem dX4_copy_45 : decode cX4_copy 45 = .ok (.aload_n 0, 1) := by decide +kernel
theorem dX4_copy_46 : decode cX4_copy 46 = .ok (.aload_n 1, 1) := by decide +kernel
theorem dX4_copy_47 : decode cX4_copy 47 = .ok (.getfield 21, 3) := by decide +kernel
theorem dX4_copy_50 : decode cX4_copy 50 = .ok (.putfield 21, 3) := by decide +kernel
theorem dX4_copy_53 : decode cX4_copy 53 = .ok (.return_, 1) := by decide +kernel
theorem dX5_init_0 : decode cX5_init 0 = .ok (.aload_n 0, 1) := by decide +kernel
theorem dX5_init_1 : decode cX5_init 1 = .ok (.invokespecial 3, 3) := by decide +kernel
theorem dX5_init_4 : decode cX5_init 4 = .ok (.aload_n 0, 1) := by decide +kernel
theorem dX5_init_5 : decode cX5_init 5 = .ok (.new 9, 3) := by decide +kernel
theorem dX5_init_8 : decode cX5_init 8 = .ok (.dup, 1) := by decide +kernel
theorem dX5_init_9 : decode cX5_init 9 = .ok (.invokespecial 11, 3) := by decide +kernel
theorem dX5_init_12 : decode cX5_init 12 = .ok (.putfield 12, 3) := by decide +kernel
theorem dX5_init_15 : decode cX5_init 15 = .ok (.aload_n 0, 1) := by decide +kernel
theorem dX5_init_16 : decode cX5_init 16 = .ok (.new 18, 3) := by decide +kernel
theorem dX5_init_19 : decode cX5_init 19 = .ok (.dup, 1) := by decide +kernel
theorem dX5_init_20 : decode cX5_init 20 = .ok (.invokespecial 20, 3) := by decide +kernel
theorem dX5_init_23 : decode cX5_init 23 = .ok (.putfield 21, 3) := by decide +kernel
theorem dX5_init_26 : decode cX5_init 26 = .ok (.aload_n 0, 1) := by decide +kernel
theorem dX5_init_27 : decode cX5_init 27 = .ok (.iconst 0, 1) := by decide +kernel
theorem dX5_init_28 : decode cX5_init 28 = .ok (.putfield 25, 3) := by decide +kernel
theorem dX5_init_31 : decode cX5_init 31 = .ok (.return_, 1) := by decide +kernel
theorem dX5_reads_0 : decode cX5_reads 0 = .ok (.aload_n 0, 1) := by decide +kernel
theorem dX5_reads_1 : decode cX5_reads 1 = .ok (.getfield 21, 3) := by decide +kernel
theorem dX5_reads_4 : decode cX5_reads 4 = .ok (.aload_n 1, 1) := by decide +kernel
theorem dX5_reads_5 : decode cX5_reads 5 = .ok (.invokevirtual 29, 3) := by decide +kernel
theorem dX5_reads_8 : decode cX5_reads 8 = .ok (.aload_n 0, 1) := by decide +kernel
theorem dX5_reads_9 : decode cX5_reads 9 = .ok (.iconst 0, 1) := by decide +kernel
theorem dX5_reads_10 : decode cX5_reads 10 = .ok (.putfield 25, 3) := by decide +kernel
theorem dX5_reads_13 : decode cX5_reads 13 = .ok (.aload_n 0, 1) := by decide +kernel
theorem dX5_reads_14 : decode cX5_reads 14 = .ok (.getfield 12, 3) := by decide +kernel
theorem dX5_reads_17 : decode cX5_reads 17 = .ok (.invokevirtual 33, 3) := by decide +kernel
theorem dX5_reads_20 : decode cX5_reads 20 = .ok (.iconst 1, 1) := by decide +kernel
theorem dX5_reads_21 : decode cX5_reads 21 = .ok (.istore_n 2, 1) := by decide +kernel
theorem dX5_reads_22 : decode cX5_reads 22 = .ok (.iload_n 2, 1) := by decide +kernel
theorem dX5_reads_23 : decode cX5_reads 23 = .ok (.bipush 10, 2) := by decide +kernel
theorem dX5_reads_25 : decode cX5_reads 25 = .ok (.if_icmp .gt 51, 3) := by decide +kernel
theorem dX5_reads_28 : decode cX5_reads 28 = .ok (.aload_n 0, 1) := by decide +kernel
theorem dX5_reads_29 : decode cX5_reads 29 = .ok (.invokevirtual 36, 3) := by decide +kernel
theorem dX5_reads_32 : decode cX5_reads 32 = .ok (.ifCond .ne 5, 3) := by decide +kernel
theorem dX5_reads_35 : decode cX5_reads 35 = .ok (.iconst 0, 1) := by decide +kernel
theorem dX5_reads_36 : decode cX5_reads 36 = .ok (.ireturn, 1) := by decide +kernel
theorem dX5_reads_37 : decode cX5_reads 37 = .ok (.aload_n 0, 1) := by decide +kernel
theorem dX5_reads_38 : decode cX5_reads 38 = .ok (.getfield 25, 3) := by decide +kernel
theorem dX5_reads_41 : decode cX5_reads 41 = .ok (.aload_n 0, 1) := by decide +kernel
theorem dX5_reads_42 : decode cX5_reads 42 = .ok (.getfield 21, 3) := by decide +kernel
theorem dX5_reads_45 : decode cX5_reads 45 = .ok (.getfield 40, 3) := by decide +kernel
theorem dX5_reads_48 : decode cX5_reads 48 = .ok (.if_icmp .lt 5, 3) := by decide +kernel
theorem dX5_reads_51 : decode cX5_reads 51 = .ok (.iconst 1, 1) := by decide +kernel
theorem dX5_reads_52 : decode cX5_reads 52 = .ok (.ireturn, 1) := by decide +kernel
theorem dX5_reads_53 : decode cX5_reads 53 = .ok (.iload_n 2, 1) := by decide +kernel
theorem dX5_reads_54 : decode cX5_reads 54 = .ok (.bipush 10, 2) := by decide +kernel
theorem dX5_reads_56 : decode cX5_reads 56 = .ok (.if_icmp .eq 12, 3) := by decide +kernel
theorem dX5_reads_59 : decode cX5_reads 59 = .ok (.aload_n 0, 1) := by decide +kernel
theorem dX5_reads_60 : decode cX5_reads 60 = .ok (.bipush 59, 2) := by decide +kernel
theorem dX5_reads_62 : decode cX5_reads 62 = .ok (.invokevirtual 43, 3) := by decide +kernel
theorem dX5_reads_65 : decode cX5_reads 65 = .ok (.ifCond .ne 5, 3) := by decide +kernel
theorem dX5_reads_68 : decode cX5_reads 68 = .ok (.iconst 0, 1) := by decide +kernel
theorem dX5_reads_69 : decode cX5_reads 69 = .ok (.ireturn, 1) := by decide +kernel
theorem dX5_reads_70 : decode cX5_reads 70 = .ok (.iinc 2 1, 3) := by decide +kernel
theorem dX5_reads_73 : decode cX5_reads 73 = .ok (.goto (-51), 3) := by decide +kernel
theorem dX5_reads_76 : decode cX5_reads 76 = .ok (.iconst 0, 1) := by decide +kernel
theorem dX5_reads_77 : decode cX5_reads 77 = .ok (.ireturn, 1) := by decide +kernel
theorem dX5_peek_0 : decode cX5_peek 0 = .ok (.aload_n 0, 1) := by decide +kernel
theorem dX5_peek_1 : decode cX5_peek 1 = .ok (.getfield 25, 3) := by decide +kernel
theorem dX5_peek_4 : decode cX5_peek 4 = .ok (.ifCond .lt 47, 3) := by decide +kernel
theorem dX5_peek_7 : decode cX5_peek 7 = .ok (.aload_n 0, 1) := by decide +kernel
theorem dX5_peek_8 : decode cX5_peek 8 = .ok (.getfield 25, 3) := by decide +kernel
theorem dX5_peek_11 : decode cX5_peek 11 = .ok (.aload_n 0, 1) := by decide +kernel
theorem dX5_peek_12 : decode cX5_peek 12 = .ok (.getfield 21, 3) := by decide +kernel
theorem dX5_peek_15 : decode cX5_peek 15 = .ok (.getfield 40, 3) := by decide +kernel
theorem dX5_peek_18 : decode cX5_peek 18 = .ok (.if_icmp .ge 33, 3) := by decide +kernel
theorem dX5_peek_21 : decode cX5_peek 21 = .ok (.aload_n 0, 1) := by decide +kernel
theorem dX5_peek_22 : decode cX5_peek 22 = .ok (.getfield 25, 3) := by decide +kernel
theorem dX5_peek_25 : decode cX5_peek 25 = .ok (.aload_n 0, 1) := by decide +kernel
theorem dX5_peek_26 : decode cX5_peek 26 = .ok (.getfield 21, 3) := by decide +kernel
theorem dX5_peek_29 : decode cX5_peek 29 = .ok (.getfield 47, 3) := by decide +kernel
theorem dX5_peek_32 : decode cX5_peek 32 = .ok (.arraylength, 1) := by decide +kernel
theorem dX5_peek_33 : decode cX5_peek 33 = .ok (.if_icmp .ge 18, 3) := by decide +kernel
theorem dX5_peek_36 : decode cX5_peek 36 = .ok (.aload_n 0, 1) := by decide +kernel
theorem dX5_peek_37 : decode cX5_peek 37 = .ok (.getfield 21, 3) := by decide +kernel
theorem dX5_peek_40 : decode cX5_peek 40 = .ok (.getfield 47, 3) := by decide +kernel
theorem dX5_peek_43 : decode cX5_peek 43 = .ok (.aload_n 0, 1) := by decide +kernel
theorem dX5_peek_44 : decode cX5_peek 44 = .ok (.getfield 25, 3) := by decide +kernel
theorem dX5_peek_47 : decode cX5_peek 47 = .ok (.iaload, 1) := by decide +kernel
theorem dX5_peek_48 : decode cX5_peek 48 = .ok (.goto 4, 3) := by decide +kernel
theorem dX5_peek_51 : decode cX5_peek 51 = .ok (.iconst (-1), 1) := by decide +kernel
theorem dX5_peek_52 : decode cX5_peek 52 = .ok (.ireturn, 1) := by decide +kernel
theorem dX5_eats_0 : decode cX5_eats 0 = .ok (.aload_n 0, 1) := by decide +kernel
theorem dX5_eats_1 : decode cX5_eats 1 = .ok (.invokevirtual 51, 3) := by decide +kernel
theorem dX5_eats_4 : decode cX5_eats 4 = .ok (.iload_n 1, 1) := by decide +kernel
theorem dX5_eats_5 : decode cX5_eats 5 = .ok (.if_icmp .eq 5, 3) := by decide +kernel
theorem dX5_eats_8 : decode cX5_eats 8 = .ok (.iconst 0, 1) := by decide +kernel
theorem dX5_eats_9 : decode cX5_eats 9 = .ok (.ireturn, 1) := by decide +kernel
theorem dX5_eats_10 : decode cX5_eats 10 = .ok (.aload_n 0, 1) := by decide +kernel
theorem dX5_eats_11 : decode cX5_eats 11 = .ok (.dup, 1) := by decide +kernel
theorem dX5_eats_12 : decode cX5_eats 12 = .ok (.getfield 25, 3) := by decide +kernel
theorem dX5_eats_15 : decode cX5_eats 15 = .ok (.iconst 1, 1) := by decide +kernel
theorem dX5_eats_16 : decode cX5_eats 16 = .ok (.iadd, 1) := by decide +kernel
theorem dX5_eats_17 : decode cX5_eats 17 = .ok (.putfield 25, 3) := by decide +kernel
theorem dX5_eats_20 : decode cX5_eats 20 = .ok (.iconst 1, 1) := by decide +kernel
theorem dX5_eats_21 : decode cX5_eats 21 = .ok (.ireturn, 1) := by decide +kernel
theorem dX5_clause_0 : decode cX5_clause 0 = .ok (.aload_n 0, 1) := by decide +kernel
theorem dX5_clause_1 : decode cX5_clause 1 = .ok (.invokevirtual 55, 3) := by decide +kernel
theorem dX5_clause_4 : decode cX5_clause 4 = .ok (.istore_n 1, 1) := by decide +kernel
theorem dX5_clause_5 : decode cX5_clause 5 = .ok (.iload_n 1, 1) := by decide +kernel
theorem dX5_clause_6 : decode cX5_clause 6 = .ok (.ifCond .ge 5, 3) := by decide +kernel
theorem dX5_clause_9 : decode cX5_clause 9 = .ok (.iconst 0, 1) := by decide +kernel
theorem dX5_clause_10 : decode cX5_clause 10 = .ok (.ireturn, 1) := by decide +kernel
theorem dX5_clause_11 : decode cX5_clause 11 = .ok (.aload_n 0, 1) := by decide +kernel
theorem dX5_clause_12 : decode cX5_clause 12 = .ok (.invokevirtual 58, 3) := by decide +kernel
theorem dX5_clause_15 : decode cX5_clause 15 = .ok (.istore_n 2, 1) := by decide +kernel
theorem dX5_clause_16 : decode cX5_clause 16 = .ok (.iload_n 2, 1) := by decide +kernel
theorem dX5_clause_17 : decode cX5_clause 17 = .ok (.ifCond .ge 5, 3) := by decide +kernel
theorem dX5_clause_20 : decode cX5_clause 20 = .ok (.iconst 0, 1) := by decide +kernel
theorem dX5_clause_21 : decode cX5_clause 21 = .ok (.ireturn, 1) := by decide +kernel
theorem dX5_clause_22 : decode cX5_clause 22 = .ok (.iload_n 1, 1) := by decide +kernel
theorem dX5_clause_23 : decode cX5_clause 23 = .ok (.iconst 2, 1) := by decide +kernel
theorem dX5_clause_24 : decode cX5_clause 24 = .ok (.isub, 1) := by decide +kernel
theorem dX5_clause_25 : decode cX5_clause 25 = .ok (.istore_n 3, 1) := by decide +kernel
theorem dX5_clause_26 : decode cX5_clause 26 = .ok (.iload_n 3, 1) := by decide +kernel
theorem dX5_clause_27 : decode cX5_clause 27 = .ok (.ifCond .lt 20, 3) := by decide +kernel
theorem dX5_clause_30 : decode cX5_clause 30 = .ok (.iload_n 3, 1) := by decide +kernel
theorem dX5_clause_31 : decode cX5_clause 31 = .ok (.iconst 5, 1) := by decide +kernel
theorem dX5_clause_32 : decode cX5_clause 32 = .ok (.if_icmp .ge 15, 3) := by decide +kernel
theorem dX5_clause_35 : decode cX5_clause 35 = .ok (.aload_n 0, 1) := by decide +kernel
theorem dX5_clause_36 : decode cX5_clause 36 = .ok (.getfield 12, 3) := by decide +kernel
theorem dX5_clause_39 : decode cX5_clause 39 = .ok (.getfield 61, 3) := by decide +kernel
theorem dX5_clause_42 : decode cX5_clause 42 = .ok (.iload_n 3, 1) := by decide +kernel
theorem dX5_clause_43 : decode cX5_clause 43 = .ok (.iload_n 2, 1) := by decide +kernel
theorem dX5_clause_44 : decode cX5_clause 44 = .ok (.iastore, 1) := by decide +kernel
theorem dX5_clause_45 : decode cX5_clause 45 = .ok (.iconst 1, 1) := by decide +kernel
theorem dX5_clause_46 : decode cX5_clause 46 = .ok (.ireturn, 1) := by decide +kernel
theorem dX5_clause_47 : decode cX5_clause 47 = .ok (.aload_n 0, 1) := by decide +kernel
theorem dX5_clause_48 : decode cX5_clause 48 = .ok (.bipush 32, 2) := by decide +kernel
theorem dX5_clause_50 : decode cX5_clause 50 = .ok (.invokevirtual 43, 3) := by decide +kernel
theorem dX5_clause_53 : decode cX5_clause 53 = .ok (.ifCond .eq 11, 3) := by decide +kernel
theorem dX5_clause_56 : decode cX5_clause 56 = .ok (.aload_n 0, 1) := by decide +kernel
theorem dX5_clause_57 : decode cX5_clause 57 = .ok (.iconst 0, 1) := by decide +kernel
theorem dX5_clause_58 : decode cX5_clause 58 = .ok (.invokevirtual 64, 3) := by decide +kernel
theorem dX5_clause_61 : decode cX5_clause 61 = .ok (.ifCond .ne 5, 3) := by decide +kernel
theorem dX5_clause_64 : decode cX5_clause 64 = .ok (.iconst 0, 1) := by decide +kernel
theorem dX5_clause_65 : decode cX5_clause 65 = .ok (.ireturn, 1) := by decide +kernel
theorem dX5_clause_66 : decode cX5_clause 66 = .ok (.aload_n 0, 1) := by decide +kernel
theorem dX5_clause_67 : decode cX5_clause 67 = .ok (.getfield 12, 3) := by decide +kernel
theorem dX5_clause_70 : decode cX5_clause 70 = .ok (.iload_n 1, 1) := by decide +kernel
theorem dX5_clause_71 : decode cX5_clause 71 = .ok (.ifCond .ne 7, 3) := by decide +kernel
theorem dX5_clause_74 : decode cX5_clause 74 = .ok (.iconst 1, 1) := by decide +kernel
theorem dX5_clause_75 : decode cX5_clause 75 = .ok (.goto 4, 3) := by decide +kernel
theorem dX5_clause_78 : decode cX5_clause 78 = .ok (.iconst 0, 1) := by decide +kernel
theorem dX5_clause_79 : decode cX5_clause 79 = .ok (.iload_n 2, 1) := by decide +kernel
theorem dX5_clause_80 : decode cX5_clause 80 = .ok (.invokevirtual 68, 3) := by decide +kernel
theorem dX5_clause_83 : decode cX5_clause 83 = .ok (.iconst 1, 1) := by decide +kernel
theorem dX5_clause_84 : decode cX5_clause 84 = .ok (.ireturn, 1) := by decide +kernel
theorem dX5_word_0 : decode cX5_word 0 = .ok (.bipush 127, 2) := by decide +kernel
theorem dX5_word_2 : decode cX5_word 2 = .ok (.istore_n 1, 1) := by decide +kernel
theorem dX5_word_3 : decode cX5_word 3 = .ok (.iconst 0, 1) := by decide +kernel
theorem dX5_word_4 : decode cX5_word 4 = .ok (.istore_n 2, 1) := by decide +kernel
theorem dX5_word_5 : decode cX5_word 5 = .ok (.iload_n 2, 1) := by decide +kernel
theorem dX5_word_6 : decode cX5_word 6 = .ok (.iconst 5, 1) := by decide +kernel
theorem dX5_word_7 : decode cX5_word 7 = .ok (.if_icmp .ge 103, 3) := by decide +kernel
theorem dX5_word_10 : decode cX5_word 10 = .ok (.iconst (-1), 1) := by decide +kernel
theorem dX5_word_11 : decode cX5_word 11 = .ok (.istore_n 3, 1) := by decide +kernel
theorem dX5_word_12 : decode cX5_word 12 = .ok (.iconst 0, 1) := by decide +kernel
theorem dX5_word_13 : decode cX5_word 13 = .ok (.istore 4, 2) := by decide +kernel
theorem dX5_word_15 : decode cX5_word 15 = .ok (.iconst 0, 1) := by decide +kernel
theorem dX5_word_16 : decode cX5_word 16 = .ok (.istore 5, 2) := by decide +kernel
theorem dX5_word_18 : decode cX5_word 18 = .ok (.iload 5, 2) := by decide +kernel
theorem dX5_word_20 : decode cX5_word 20 = .ok (.bipush 7, 2) := by decide +kernel
theorem dX5_word_22 : decode cX5_word 22 = .ok (.if_icmp .ge 51, 3) := by decide +kernel
theorem dX5_word_25 : decode cX5_word 25 = .ok (.iload_n 1, 1) := by decide +kernel
theorem dX5_word_26 : decode cX5_word 26 = .ok (.iload 5, 2) := by decide +kernel
theorem dX5_word_28 : decode cX5_word 28 = .ok (.ishr, 1) := by decide +kernel
theorem dX5_word_29 : decode cX5_word 29 = .ok (.iconst 1, 1) := by decide +kernel
theorem dX5_word_30 : decode cX5_word 30 = .ok (.iand, 1) := by decide +kernel
theorem dX5_word_31 : decode cX5_word 31 = .ok (.ifCond .eq 36, 3) := by decide +kernel
theorem dX5_word_34 : decode cX5_word 34 = .ok (.ldc 72, 2) := by decide +kernel
theorem dX5_word_36 : decode cX5_word 36 = .ok (.iload 5, 2) := by decide +kernel
theorem dX5_word_38 : decode cX5_word 38 = .ok (.iconst 5, 1) := by decide +kernel
theorem dX5_word_39 : decode cX5_word 39 = .ok (.imul, 1) := by decide +kernel
theorem dX5_word_40 : decode cX5_word 40 = .ok (.iload_n 2, 1) := by decide +kernel
theorem dX5_word_41 : decode cX5_word 41 = .ok (.iadd, 1) := by decide +kernel
theorem dX5_word_42 : decode cX5_word 42 = .ok (.invokevirtual 74, 3) := by decide +kernel
theorem dX5_word_45 : decode cX5_word 45 = .ok (.aload_n 0, 1) := by decide +kernel
theorem dX5_word_46 : decode cX5_word 46 = .ok (.invokevirtual 51, 3) := by decide +kernel
theorem dX5_word_49 : decode cX5_word 49 = .ok (.if_icmp .eq 6, 3) := by decide +kernel
theorem dX5_word_52 : decode cX5_word 52 = .ok (.goto 15, 3) := by decide +kernel
theorem dX5_word_55 : decode cX5_word 55 = .ok (.iload 4, 2) := by decide +kernel
theorem dX5_word_57 : decode cX5_word 57 = .ok (.iconst 1, 1) := by decide +kernel
theorem dX5_word_58 : decode cX5_word 58 = .ok (.iload 5, 2) := by decide +kernel
theorem dX5_word_60 : decode cX5_word 60 = .ok (.ishl, 1) := by decide +kernel
theorem dX5_word_61 : decode cX5_word 61 = .ok (.ior, 1) := by decide +kernel
theorem dX5_word_62 : decode cX5_word 62 = .ok (.istore 4, 2) := by decide +kernel
theorem dX5_word_64 : decode cX5_word 64 = .ok (.iload 5, 2) := by decide +kernel
theorem dX5_word_66 : decode cX5_word 66 = .ok (.istore_n 3, 1) := by decide +kernel
theorem dX5_word_67 : decode cX5_word 67 = .ok (.iinc 5 1, 3) := by decide +kernel
theorem dX5_word_70 : decode cX5_word 70 = .ok (.goto (-52), 3) := by decide +kernel
theorem dX5_word_73 : decode cX5_word 73 = .ok (.iload 4, 2) := by decide +kernel
theorem dX5_word_75 : decode cX5_word 75 = .ok (.ifCond .ne 5, 3) := by decide +kernel
theorem dX5_word_78 : decode cX5_word 78 = .ok (.iconst (-1), 1) := by decide +kernel
theorem dX5_word_79 : decode cX5_word 79 = .ok (.ireturn, 1) := by decide +kernel
theorem dX5_word_80 : decode cX5_word 80 = .ok (.aload_n 0, 1) := by decide +kernel
theorem dX5_word_81 : decode cX5_word 81 = .ok (.bipush 32, 2) := by decide +kernel
theorem dX5_word_83 : decode cX5_word 83 = .ok (.invokevirtual 43, 3) := by decide +kernel
theorem dX5_word_86 : decode cX5_word 86 = .ok (.ifCond .eq 5, 3) := by decide +kernel
theorem dX5_word_89 : decode cX5_word 89 = .ok (.iload_n 3, 1) := by decide +kernel
theorem dX5_word_90 : decode cX5_word 90 = .ok (.ireturn, 1) := by decide +kernel
theorem dX5_word_91 : decode cX5_word 91 = .ok (.aload_n 0, 1) := by decide +kernel
theorem dX5_word_92 : decode cX5_word 92 = .ok (.dup, 1) := by decide +kernel
theorem dX5_word_93 : decode cX5_word 93 = .ok (.getfield 25, 3) := by decide +kernel
theorem dX5_word_96 : decode cX5_word 96 = .ok (.iconst 1, 1) := by decide +kernel
theorem dX5_word_97 : decode cX5_word 97 = .ok (.iadd, 1) := by decide +kernel
theorem dX5_word_98 : decode cX5_word 98 = .ok (.putfield 25, 3) := by decide +kernel
theorem dX5_word_101 : decode cX5_word 101 = .ok (.iload 4, 2) := by decide +kernel
theorem dX5_word_103 : decode cX5_word 103 = .ok (.istore_n 1, 1) := by decide +kernel
theorem dX5_word_104 : decode cX5_word 104 = .ok (.iinc 2 1, 3) := by decide +kernel
theorem dX5_word_107 : decode cX5_word 107 = .ok (.goto (-102), 3) := by decide +kernel
theorem dX5_word_110 : decode cX5_word 110 = .ok (.iconst (-1), 1) := by decide +kernel
theorem dX5_word_111 : decode cX5_word 111 = .ok (.ireturn, 1) := by decide +kernel
theorem dX5_digit_0 : decode cX5_digit 0 = .ok (.aload_n 0, 1) := by decide +kernel
theorem dX5_digit_1 : decode cX5_digit 1 = .ok (.invokevirtual 51, 3) := by decide +kernel
theorem dX5_digit_4 : decode cX5_digit 4 = .ok (.istore_n 1, 1) := by decide +kernel
theorem dX5_digit_5 : decode cX5_digit 5 = .ok (.iload_n 1, 1) := by decide +kernel
theorem dX5_digit_6 : decode cX5_digit 6 = .ok (.bipush 48, 2) := by decide +kernel
theorem dX5_digit_8 : decode cX5_digit 8 = .ok (.if_icmp .lt 16, 3) := by decide +kernel
theorem dX5_digit_11 : decode cX5_digit 11 = .ok (.iload_n 1, 1) := by decide +kernel
theorem dX5_digit_12 : decode cX5_digit 12 = .ok (.bipush 57, 2) := by decide +kernel
theorem dX5_digit_14 : decode cX5_digit 14 = .ok (.if_icmp .gt 10, 3) := by decide +kernel
theorem dX5_digit_17 : decode cX5_digit 17 = .ok (.iload_n 1, 1) := by decide +kernel
theorem dX5_digit_18 : decode cX5_digit 18 = .ok (.bipush 48, 2) := by decide +kernel
theorem dX5_digit_20 : decode cX5_digit 20 = .ok (.isub, 1) := by decide +kernel
theorem dX5_digit_21 : decode cX5_digit 21 = .ok (.goto 4, 3) := by decide +kernel
theorem dX5_digit_24 : decode cX5_digit 24 = .ok (.iconst (-1), 1) := by decide +kernel
theorem dX5_digit_25 : decode cX5_digit 25 = .ok (.ireturn, 1) := by decide +kernel
theorem dX5_number_0 : decode cX5_number 0 = .ok (.aload_n 0, 1) := by decide +kernel
theorem dX5_number_1 : decode cX5_number 1 = .ok (.invokevirtual 80, 3) := by decide +kernel
theorem dX5_number_4 : decode cX5_number 4 = .ok (.istore_n 1, 1) := by decide +kernel
theorem dX5_number_5 : decode cX5_number 5 = .ok (.iload_n 1, 1) := by decide +kernel
theorem dX5_number_6 : decode cX5_number 6 = .ok (.ifCond .ge 5, 3) := by decide +kernel
theorem dX5_number_9 : decode cX5_number 9 = .ok (.iconst (-1), 1) := by decide +kernel
theorem dX5_number_10 : decode cX5_number 10 = .ok (.ireturn, 1) := by decide +kernel
theorem dX5_number_11 : decode cX5_number 11 = .ok (.aload_n 0, 1) := by decide +kernel
theorem dX5_number_12 : decode cX5_number 12 = .ok (.dup, 1) := by decide +kernel
theorem dX5_number_13 : decode cX5_number 13 = .ok (.getfield 25, 3) := by decide +kernel
theorem dX5_number_16 : decode cX5_number 16 = .ok (.iconst 1, 1) := by decide +kernel
theorem dX5_number_17 : decode cX5_number 17 = .ok (.iadd, 1) := by decide +kernel
theorem dX5_number_18 : decode cX5_number 18 = .ok (.putfield 25, 3) := by decide +kernel
theorem dX5_number_21 : decode cX5_number 21 = .ok (.aload_n 0, 1) := by decide +kernel
theorem dX5_number_22 : decode cX5_number 22 = .ok (.invokevirtual 80, 3) := by decide +kernel
theorem dX5_number_25 : decode cX5_number 25 = .ok (.istore_n 2, 1) := by decide +kernel
theorem dX5_number_26 : decode cX5_number 26 = .ok (.iload_n 1, 1) := by decide +kernel
theorem dX5_number_27 : decode cX5_number 27 = .ok (.ifCond .eq 7, 3) := by decide +kernel
theorem dX5_number_30 : decode cX5_number 30 = .ok (.iload_n 2, 1) := by decide +kernel
theorem dX5_number_31 : decode cX5_number 31 = .ok (.ifCond .ge 5, 3) := by decide +kernel
theorem dX5_number_34 : decode cX5_number 34 = .ok (.iload_n 1, 1) := by decide +kernel
theorem dX5_number_35 : decode cX5_number 35 = .ok (.ireturn, 1) := by decide +kernel
theorem dX5_number_36 : decode cX5_number 36 = .ok (.aload_n 0, 1) := by decide +kernel
theorem dX5_number_37 : decode cX5_number 37 = .ok (.dup, 1) := by decide +kernel
theorem dX5_number_38 : decode cX5_number 38 = .ok (.getfield 25, 3) := by decide +kernel
theorem dX5_number_41 : decode cX5_number 41 = .ok (.iconst 1, 1) := by decide +kernel
theorem dX5_number_42 : decode cX5_number 42 = .ok (.iadd, 1) := by decide +kernel
theorem dX5_number_43 : decode cX5_number 43 = .ok (.putfield 25, 3) := by decide +kernel
theorem dX5_number_46 : decode cX5_number 46 = .ok (.bipush 10, 2) := by decide +kernel
theorem dX5_number_48 : decode cX5_number 48 = .ok (.iload_n 1, 1) := by decide +kernel
theorem dX5_number_49 : decode cX5_number 49 = .ok (.imul, 1) := by decide +kernel
theorem dX5_number_50 : decode cX5_number 50 = .ok (.iload_n 2, 1) := by decide +kernel
theorem dX5_number_51 : decode cX5_number 51 = .ok (.iadd, 1) := by decide +kernel
theorem dX5_number_52 : decode cX5_number 52 = .ok (.ireturn, 1) := by decide +kernel
theorem dX5_either_0 : decode cX5_either 0 = .ok (.aload_n 0, 1) := by decide +kernel
theorem dX5_either_1 : decode cX5_either 1 = .ok (.iload_n 1, 1) := by decide +kernel
theorem dX5_either_2 : decode cX5_either 2 = .ok (.invokevirtual 83, 3) := by decide +kernel
theorem dX5_either_5 : decode cX5_either 5 = .ok (.ifCond .ne 5, 3) := by decide +kernel
theorem dX5_either_8 : decode cX5_either 8 = .ok (.iconst 0, 1) := by decide +kernel
theorem dX5_either_9 : decode cX5_either 9 = .ok (.ireturn, 1) := by decide +kernel
theorem dX5_either_10 : decode cX5_either 10 = .ok (.iconst 0, 1) := by decide +kernel
theorem dX5_either_11 : decode cX5_either 11 = .ok (.istore_n 2, 1) := by decide +kernel
theorem dX5_either_12 : decode cX5_either 12 = .ok (.iload_n 2, 1) := by decide +kernel
theorem dX5_either_13 : decode cX5_either 13 = .ok (.bipush 120, 2) := by decide +kernel
theorem dX5_either_15 : decode cX5_either 15 = .ok (.if_icmp .ge 37, 3) := by decide +kernel
theorem dX5_either_18 : decode cX5_either 18 = .ok (.aload_n 0, 1) := by decide +kernel
theorem dX5_either_19 : decode cX5_either 19 = .ok (.bipush 124, 2) := by decide +kernel
theorem dX5_either_21 : decode cX5_either 21 = .ok (.invokevirtual 43, 3) := by decide +kernel
theorem dX5_either_24 : decode cX5_either 24 = .ok (.ifCond .eq 28, 3) := by decide +kernel
theorem dX5_either_27 : decode cX5_either 27 = .ok (.aload_n 0, 1) := by decide +kernel
theorem dX5_either_28 : decode cX5_either 28 = .ok (.iload_n 1, 1) := by decide +kernel
theorem dX5_either_29 : decode cX5_either 29 = .ok (.invokevirtual 83, 3) := by decide +kernel
theorem dX5_either_32 : decode cX5_either 32 = .ok (.ifCond .ne 5, 3) := by decide +kernel
theorem dX5_either_35 : decode cX5_either 35 = .ok (.iconst 0, 1) := by decide +kernel
theorem dX5_either_36 : decode cX5_either 36 = .ok (.ireturn, 1) := by decide +kernel
theorem dX5_either_37 : decode cX5_either 37 = .ok (.aload_n 0, 1) := by decide +kernel
theorem dX5_either_38 : decode cX5_either 38 = .ok (.getfield 12, 3) := by decide +kernel
theorem dX5_either_41 : decode cX5_either 41 = .ok (.bipush (-3), 2) := by decide +kernel
theorem dX5_either_43 : decode cX5_either 43 = .ok (.invokevirtual 86, 3) := by decide +kernel
theorem dX5_either_46 : decode cX5_either 46 = .ok (.iinc 2 1, 3) := by decide +kernel
theorem dX5_either_49 : decode cX5_either 49 = .ok (.goto (-37), 3) := by decide +kernel
theorem dX5_either_52 : decode cX5_either 52 = .ok (.iconst 1, 1) := by decide +kernel
theorem dX5_either_53 : decode cX5_either 53 = .ok (.ireturn, 1) := by decide +kernel
theorem dX5_both_0 : decode cX5_both 0 = .ok (.aload_n 0, 1) := by decide +kernel
theorem dX5_both_1 : decode cX5_both 1 = .ok (.iload_n 1, 1) := by decide +kernel
theorem dX5_both_2 : decode cX5_both 2 = .ok (.invokevirtual 90, 3) := by decide +kernel
theorem dX5_both_5 : decode cX5_both 5 = .ok (.ifCond .ne 5, 3) := by decide +kernel
theorem dX5_both_8 : decode cX5_both 8 = .ok (.iconst 0, 1) := by decide +kernel
theorem dX5_both_9 : decode cX5_both 9 = .ok (.ireturn, 1) := by decide +kernel
theorem dX5_both_10 : decode cX5_both 10 = .ok (.iconst 0, 1) := by decide +kernel
theorem dX5_both_11 : decode cX5_both 11 = .ok (.istore_n 2, 1) := by decide +kernel
theorem dX5_both_12 : decode cX5_both 12 = .ok (.iload_n 2, 1) := by decide +kernel
theorem dX5_both_13 : decode cX5_both 13 = .ok (.bipush 120, 2) := by decide +kernel
theorem dX5_both_15 : decode cX5_both 15 = .ok (.if_icmp .ge 37, 3) := by decide +kernel
theorem dX5_both_18 : decode cX5_both 18 = .ok (.aload_n 0, 1) := by decide +kernel
theorem dX5_both_19 : decode cX5_both 19 = .ok (.bipush 38, 2) := by decide +kernel
theorem dX5_both_21 : decode cX5_both 21 = .ok (.invokevirtual 43, 3) := by decide +kernel
theorem dX5_both_24 : decode cX5_both 24 = .ok (.ifCond .eq 28, 3) := by decide +kernel
theorem dX5_both_27 : decode cX5_both 27 = .ok (.aload_n 0, 1) := by decide +kernel
theorem dX5_both_28 : decode cX5_both 28 = .ok (.iload_n 1, 1) := by decide +kernel
theorem dX5_both_29 : decode cX5_both 29 = .ok (.invokevirtual 90, 3) := by decide +kernel
theorem dX5_both_32 : decode cX5_both 32 = .ok (.ifCond .ne 5, 3) := by decide +kernel
theorem dX5_both_35 : decode cX5_both 35 = .ok (.iconst 0, 1) := by decide +kernel
theorem dX5_both_36 : decode cX5_both 36 = .ok (.ireturn, 1) := by decide +kernel
theorem dX5_both_37 : decode cX5_both 37 = .ok (.aload_n 0, 1) := by decide +kernel
theorem dX5_both_38 : decode cX5_both 38 = .ok (.getfield 12, 3) := by decide +kernel
theorem dX5_both_41 : decode cX5_both 41 = .ok (.bipush (-2), 2) := by decide +kernel
theorem dX5_both_43 : decode cX5_both 43 = .ok (.invokevirtual 86, 3) := by decide +kernel
theorem dX5_both_46 : decode cX5_both 46 = .ok (.iinc 2 1, 3) := by decide +kernel
theorem dX5_both_49 : decode cX5_both 49 = .ok (.goto (-37), 3) := by decide +kernel
theorem dX5_both_52 : decode cX5_both 52 = .ok (.iconst 1, 1) := by decide +kernel
theorem dX5_both_53 : decode cX5_both 53 = .ok (.ireturn, 1) := by decide +kernel
theorem dX5_factor_0 : decode cX5_factor 0 = .ok (.iload_n 1, 1) := by decide +kernel
theorem dX5_factor_1 : decode cX5_factor 1 = .ok (.istore_n 2, 1) := by decide +kernel
theorem dX5_factor_2 : decode cX5_factor 2 = .ok (.iconst 0, 1) := by decide +kernel
theorem dX5_factor_3 : decode cX5_factor 3 = .ok (.istore_n 3, 1) := by decide +kernel
theorem dX5_factor_4 : decode cX5_factor 4 = .ok (.iload_n 2, 1) := by decide +kernel
theorem dX5_factor_5 : decode cX5_factor 5 = .ok (.iconst 5, 1) := by decide +kernel
theorem dX5_factor_6 : decode cX5_factor 6 = .ok (.if_icmp .ge 28, 3) := by decide +kernel
theorem dX5_factor_9 : decode cX5_factor 9 = .ok (.aload_n 0, 1) := by decide +kernel
theorem dX5_factor_10 : decode cX5_factor 10 = .ok (.bipush 33, 2) := by decide +kernel
theorem dX5_factor_12 : decode cX5_factor 12 = .ok (.invokevirtual 43, 3) := by decide +kernel
theorem dX5_factor_15 : decode cX5_factor 15 = .ok (.ifCond .eq 19, 3) := by decide +kernel
theorem dX5_factor_18 : decode cX5_factor 18 = .ok (.iload_n 3, 1) := by decide +kernel
theorem dX5_factor_19 : decode cX5_factor 19 = .ok (.ifCond .ne 7, 3) := by decide +kernel
theorem dX5_factor_22 : decode cX5_factor 22 = .ok (.iconst 1, 1) := by decide +kernel
theorem dX5_factor_23 : decode cX5_factor 23 = .ok (.goto 4, 3) := by decide +kernel
theorem dX5_factor_26 : decode cX5_factor 26 = .ok (.iconst 0, 1) := by decide +kernel
theorem dX5_factor_27 : decode cX5_factor 27 = .ok (.istore_n 3, 1) := by decide +kernel
theorem dX5_factor_28 : decode cX5_factor 28 = .ok (.iinc 2 1, 3) := by decide +kernel
theorem dX5_factor_31 : decode cX5_factor 31 = .ok (.goto (-27), 3) := by decide +kernel
theorem dX5_factor_34 : decode cX5_factor 34 = .ok (.iload_n 2, 1) := by decide +kernel
theorem dX5_factor_35 : decode cX5_factor 35 = .ok (.iconst 5, 1) := by decide +kernel
theorem dX5_factor_36 : decode cX5_factor 36 = .ok (.if_icmp .ge 33, 3) := by decide +kernel
theorem dX5_factor_39 : decode cX5_factor 39 = .ok (.aload_n 0, 1) := by decide +kernel
theorem dX5_factor_40 : decode cX5_factor 40 = .ok (.bipush 40, 2) := by decide +kernel
theorem dX5_factor_42 : decode cX5_factor 42 = .ok (.invokevirtual 43, 3) := by decide +kernel
theorem dX5_factor_45 : decode cX5_factor 45 = .ok (.ifCond .eq 24, 3) := by decide +kernel
theorem dX5_factor_48 : decode cX5_factor 48 = .ok (.aload_n 0, 1) := by decide +kernel
theorem dX5_factor_49 : decode cX5_factor 49 = .ok (.iload_n 2, 1) := by decide +kernel
theorem dX5_factor_50 : decode cX5_factor 50 = .ok (.iconst 1, 1) := by decide +kernel
theorem dX5_factor_51 : decode cX5_factor 51 = .ok (.iadd, 1) := by decide +kernel
theorem dX5_factor_52 : decode cX5_factor 52 = .ok (.invokevirtual 64, 3) := by decide +kernel
theorem dX5_factor_55 : decode cX5_factor 55 = .ok (.ifCond .eq 12, 3) := by decide +kernel
theorem dX5_factor_58 : decode cX5_factor 58 = .ok (.aload_n 0, 1) := by decide +kernel
theorem dX5_factor_59 : decode cX5_factor 59 = .ok (.bipush 41, 2) := by decide +kernel
theorem dX5_factor_61 : decode cX5_factor 61 = .ok (.invokevirtual 43, 3) := by decide +kernel
theorem dX5_factor_64 : decode cX5_factor 64 = .ok (.ifCond .ne 14, 3) := by decide +kernel
theorem dX5_factor_67 : decode cX5_factor 67 = .ok (.iconst 0, 1) := by decide +kernel
theorem dX5_factor_68 : decode cX5_factor 68 = .ok (.ireturn, 1) := by decide +kernel
theorem dX5_factor_69 : decode cX5_factor 69 = .ok (.aload_n 0, 1) := by decide +kernel
theorem dX5_factor_70 : decode cX5_factor 70 = .ok (.invokevirtual 93, 3) := by decide +kernel
theorem dX5_factor_73 : decode cX5_factor 73 = .ok (.ifCond .ne 5, 3) := by decide +kernel
theorem dX5_factor_76 : decode cX5_factor 76 = .ok (.iconst 0, 1) := by decide +kernel
theorem dX5_factor_77 : decode cX5_factor 77 = .ok (.ireturn, 1) := by decide +kernel
theorem dX5_factor_78 : decode cX5_factor 78 = .ok (.iload_n 3, 1) := by decide +kernel
theorem dX5_factor_79 : decode cX5_factor 79 = .ok (.ifCond .eq 11, 3) := by decide +kernel
theorem dX5_factor_82 : decode cX5_factor 82 = .ok (.aload_n 0, 1) := by decide +kernel
theorem dX5_factor_83 : decode cX5_factor 83 = .ok (.getfield 12, 3) := by decide +kernel
theorem dX5_factor_86 : decode cX5_factor 86 = .ok (.iconst (-1), 1) := by decide +kernel
theorem dX5_factor_87 : decode cX5_factor 87 = .ok (.invokevirtual 86, 3) := by decide +kernel
theorem dX5_factor_90 : decode cX5_factor 90 = .ok (.iconst 1, 1) := by decide +kernel
theorem dX5_factor_91 : decode cX5_factor 91 = .ok (.ireturn, 1) := by decide +kernel
theorem dX5_test_0 : decode cX5_test 0 = .ok (.aload_n 0, 1) := by decide +kernel
theorem dX5_test_1 : decode cX5_test 1 = .ok (.ldc 98, 2) := by decide +kernel
theorem dX5_test_3 : decode cX5_test 3 = .ok (.invokevirtual 100, 3) := by decide +kernel
theorem dX5_test_6 : decode cX5_test 6 = .ok (.istore_n 1, 1) := by decide +kernel
theorem dX5_test_7 : decode cX5_test 7 = .ok (.iload_n 1, 1) := by decide +kernel
theorem dX5_test_8 : decode cX5_test 8 = .ok (.ifCond .ge 5, 3) := by decide +kernel
theorem dX5_test_11 : decode cX5_test 11 = .ok (.iconst 0, 1) := by decide +kernel
theorem dX5_test_12 : decode cX5_test 12 = .ok (.ireturn, 1) := by decide +kernel
theorem dX5_test_13 : decode cX5_test 13 = .ok (.aload_n 0, 1) := by decide +kernel
theorem dX5_test_14 : decode cX5_test 14 = .ok (.ldc 104, 2) := by decide +kernel
theorem dX5_test_16 : decode cX5_test 16 = .ok (.invokevirtual 100, 3) := by decide +kernel
theorem dX5_test_19 : decode cX5_test 19 = .ok (.istore_n 2, 1) := by decide +kernel
theorem dX5_test_20 : decode cX5_test 20 = .ok (.iload_n 2, 1) := by decide +kernel
theorem dX5_test_21 : decode cX5_test 21 = .ok (.ifCond .ge 5, 3) := by decide +kernel
theorem dX5_test_24 : decode cX5_test 24 = .ok (.iconst 0, 1) := by decide +kernel
theorem dX5_test_25 : decode cX5_test 25 = .ok (.ireturn, 1) := by decide +kernel
theorem dX5_test_26 : decode cX5_test 26 = .ok (.aload_n 0, 1) := by decide +kernel
theorem dX5_test_27 : decode cX5_test 27 = .ok (.invokevirtual 58, 3) := by decide +kernel
theorem dX5_test_30 : decode cX5_test 30 = .ok (.istore_n 3, 1) := by decide +kernel
theorem dX5_test_31 : decode cX5_test 31 = .ok (.iload_n 3, 1) := by decide +kernel
theorem dX5_test_32 : decode cX5_test 32 = .ok (.ifCond .ge 5, 3) := by decide +kernel
theorem dX5_test_35 : decode cX5_test 35 = .ok (.iconst 0, 1) := by decide +kernel
theorem dX5_test_36 : decode cX5_test 36 = .ok (.ireturn, 1) := by decide +kernel
theorem dX5_test_37 : decode cX5_test 37 = .ok (.aload_n 0, 1) := by decide +kernel
theorem dX5_test_38 : decode cX5_test 38 = .ok (.getfield 12, 3) := by decide +kernel
theorem dX5_test_41 : decode cX5_test 41 = .ok (.iload_n 1, 1) := by decide +kernel
theorem dX5_test_42 : decode cX5_test 42 = .ok (.iload_n 2, 1) := by decide +kernel
theorem dX5_test_43 : decode cX5_test 43 = .ok (.iload_n 3, 1) := by decide +kernel
theorem dX5_test_44 : decode cX5_test 44 = .ok (.invokestatic 106, 3) := by decide +kernel
theorem dX5_test_47 : decode cX5_test 47 = .ok (.invokevirtual 86, 3) := by decide +kernel
theorem dX5_test_50 : decode cX5_test 50 = .ok (.iconst 1, 1) := by decide +kernel
theorem dX5_test_51 : decode cX5_test 51 = .ok (.ireturn, 1) := by decide +kernel
theorem dX5_oneOf_0 : decode cX5_oneOf 0 = .ok (.aload_n 0, 1) := by decide +kernel
theorem dX5_oneOf_1 : decode cX5_oneOf 1 = .ok (.invokevirtual 51, 3) := by decide +kernel
theorem dX5_oneOf_4 : decode cX5_oneOf 4 = .ok (.istore_n 2, 1) := by decide +kernel
theorem dX5_oneOf_5 : decode cX5_oneOf 5 = .ok (.iconst 0, 1) := by decide +kernel
theorem dX5_oneOf_6 : decode cX5_oneOf 6 = .ok (.istore_n 3, 1) := by decide +kernel
theorem dX5_oneOf_7 : decode cX5_oneOf 7 = .ok (.iload_n 3, 1) := by decide +kernel
theorem dX5_oneOf_8 : decode cX5_oneOf 8 = .ok (.aload_n 1, 1) := by decide +kernel
theorem dX5_oneOf_9 : decode cX5_oneOf 9 = .ok (.invokevirtual 110, 3) := by decide +kernel
theorem dX5_oneOf_12 : decode cX5_oneOf 12 = .ok (.if_icmp .ge 33, 3) := by decide +kernel
theorem dX5_oneOf_15 : decode cX5_oneOf 15 = .ok (.aload_n 1, 1) := by decide +kernel
theorem dX5_oneOf_16 : decode cX5_oneOf 16 = .ok (.iload_n 3, 1) := by decide +kernel
theorem dX5_oneOf_17 : decode cX5_oneOf 17 = .ok (.invokevirtual 74, 3) := by decide +kernel
theorem dX5_oneOf_20 : decode cX5_oneOf 20 = .ok (.iload_n 2, 1) := by decide +kernel
theorem dX5_oneOf_21 : decode cX5_oneOf 21 = .ok (.if_icmp .eq 6, 3) := by decide +kernel
theorem dX5_oneOf_24 : decode cX5_oneOf 24 = .ok (.goto 15, 3) := by decide +kernel
theorem dX5_oneOf_27 : decode cX5_oneOf 27 = .ok (.aload_n 0, 1) := by decide +kernel
theorem dX5_oneOf_28 : decode cX5_oneOf 28 = .ok (.dup, 1) := by decide +kernel
theorem dX5_oneOf_29 : decode cX5_oneOf 29 = .ok (.getfield 25, 3) := by decide +kernel
theorem dX5_oneOf_32 : decode cX5_oneOf 32 = .ok (.iconst 1, 1) := by decide +kernel
theorem dX5_oneOf_33 : decode cX5_oneOf 33 = .ok (.iadd, 1) := by decide +kernel
theorem dX5_oneOf_34 : decode cX5_oneOf 34 = .ok (.putfield 25, 3) := by decide +kernel
theorem dX5_oneOf_37 : decode cX5_oneOf 37 = .ok (.iload_n 3, 1) := by decide +kernel
theorem dX5_oneOf_38 : decode cX5_oneOf 38 = .ok (.ireturn, 1) := by decide +kernel
theorem dX5_oneOf_39 : decode cX5_oneOf 39 = .ok (.iinc 3 1, 3) := by decide +kernel
theorem dX5_oneOf_42 : decode cX5_oneOf 42 = .ok (.goto (-35), 3) := by decide +kernel
theorem dX5_oneOf_45 : decode cX5_oneOf 45 = .ok (.iconst (-1), 1) := by decide +kernel
theorem dX5_oneOf_46 : decode cX5_oneOf 46 = .ok (.ireturn, 1) := by decide +kernel
theorem dX6_init_0 : decode cX6_init 0 = .ok (.aload_n 0, 1) := by decide +kernel
theorem dX6_init_1 : decode cX6_init 1 = .ok (.invokespecial 3, 3) := by decide +kernel
theorem dX6_init_4 : decode cX6_init 4 = .ok (.aload_n 0, 1) := by decide +kernel
theorem dX6_init_5 : decode cX6_init 5 = .ok (.bipush 40, 2) := by decide +kernel
theorem dX6_init_7 : decode cX6_init 7 = .ok (.newarray .int, 2) := by decide +kernel
theorem dX6_init_9 : decode cX6_init 9 = .ok (.putfield 9, 3) := by decide +kernel
theorem dX6_init_12 : decode cX6_init 12 = .ok (.aload_n 0, 1) := by decide +kernel
theorem dX6_init_13 : decode cX6_init 13 = .ok (.sipush 400, 3) := by decide +kernel
theorem dX6_init_16 : decode cX6_init 16 = .ok (.newarray .int, 2) := by decide +kernel
theorem dX6_init_18 : decode cX6_init 18 = .ok (.putfield 15, 3) := by decide +kernel
theorem dX6_init_21 : decode cX6_init 21 = .ok (.aload_n 0, 1) := by decide +kernel
theorem dX6_init_22 : decode cX6_init 22 = .ok (.sipush 400, 3) := by decide +kernel
theorem dX6_init_25 : decode cX6_init 25 = .ok (.newarray .int, 2) := by decide +kernel
theorem dX6_init_27 : decode cX6_init 27 = .ok (.putfield 18, 3) := by decide +kernel
theorem dX6_init_30 : decode cX6_init 30 = .ok (.aload_n 0, 1) := by decide +kernel
theorem dX6_init_31 : decode cX6_init 31 = .ok (.sipush 400, 3) := by decide +kernel
theorem dX6_init_34 : decode cX6_init 34 = .ok (.newarray .int, 2) := by decide +kernel
theorem dX6_init_36 : decode cX6_init 36 = .ok (.putfield 21, 3) := by decide +kernel
theorem dX6_init_39 : decode cX6_init 39 = .ok (.aload_n 0, 1) := by decide +kernel
theorem dX6_init_40 : decode cX6_init 40 = .ok (.bipush 10, 2) := by decide +kernel
theorem dX6_init_42 : decode cX6_init 42 = .ok (.newarray .long, 2) := by decide +kernel
theorem dX6_init_44 : decode cX6_init 44 = .ok (.putfield 24, 3) := by decide +kernel
theorem dX6_init_47 : decode cX6_init 47 = .ok (.aload_n 0, 1) := by decide +kernel
theorem dX6_init_48 : decode cX6_init 48 = .ok (.bipush 16, 2) := by decide +kernel
theorem dX6_init_50 : decode cX6_init 50 = .ok (.newarray .long, 2) := by decide +kernel
theorem dX6_init_52 : decode cX6_init 52 = .ok (.putfield 28, 3) := by decide +kernel
theorem dX6_init_55 : decode cX6_init 55 = .ok (.return_, 1) := by decide +kernel
theorem dX6_lengthOf_0 : decode cX6_lengthOf 0 = .ok (.aload_n 0, 1) := by decide +kernel
theorem dX6_lengthOf_1 : decode cX6_lengthOf 1 = .ok (.getfield 9, 3) := by decide +kernel
theorem dX6_lengthOf_4 : decode cX6_lengthOf 4 = .ok (.iload_n 2, 1) := by decide +kernel
theorem dX6_lengthOf_5 : decode cX6_lengthOf 5 = .ok (.iaload, 1) := by decide +kernel
theorem dX6_lengthOf_6 : decode cX6_lengthOf 6 = .ok (.aload_n 0, 1) := by decide +kernel
theorem dX6_lengthOf_7 : decode cX6_lengthOf 7 = .ok (.getfield 15, 3) := by decide +kernel
theorem dX6_lengthOf_10 : decode cX6_lengthOf 10 = .ok (.iload_n 1, 1) := by decide +kernel
theorem dX6_lengthOf_11 : decode cX6_lengthOf 11 = .ok (.bipush 40, 2) := by decide +kernel
theorem dX6_lengthOf_13 : decode cX6_lengthOf 13 = .ok (.imul, 1) := by decide +kernel
theorem dX6_lengthOf_14 : decode cX6_lengthOf 14 = .ok (.iload_n 2, 1) := by decide +kernel
theorem dX6_lengthOf_15 : decode cX6_lengthOf 15 = .ok (.iadd, 1) := by decide +kernel
theorem dX6_lengthOf_16 : decode cX6_lengthOf 16 = .ok (.iaload, 1) := by decide +kernel
theorem dX6_lengthOf_17 : decode cX6_lengthOf 17 = .ok (.imul, 1) := by decide +kernel
theorem dX6_lengthOf_18 : decode cX6_lengthOf 18 = .ok (.bipush 10, 2) := by decide +kernel
theorem dX6_lengthOf_20 : decode cX6_lengthOf 20 = .ok (.idiv, 1) := by decide +kernel
theorem dX6_lengthOf_21 : decode cX6_lengthOf 21 = .ok (.ireturn, 1) := by decide +kernel
theorem dX6_holdOf_0 : decode cX6_holdOf 0 = .ok (.iconst 1, 1) := by decide +kernel
theorem dX6_holdOf_1 : decode cX6_holdOf 1 = .ok (.aload_n 0, 1) := by decide +kernel
theorem dX6_holdOf_2 : decode cX6_holdOf 2 = .ok (.getfield 18, 3) := by decide +kernel
theorem dX6_holdOf_5 : decode cX6_holdOf 5 = .ok (.iload_n 1, 1) := by decide +kernel
theorem dX6_holdOf_6 : decode cX6_holdOf 6 = .ok (.bipush 40, 2) := by decide +kernel
theorem dX6_holdOf_8 : decode cX6_holdOf 8 = .ok (.imul, 1) := by decide +kernel
theorem dX6_holdOf_9 : decode cX6_holdOf 9 = .ok (.iload_n 2, 1) := by decide +kernel
theorem dX6_holdOf_10 : decode cX6_holdOf 10 = .ok (.iadd, 1) := by decide +kernel
theorem dX6_holdOf_11 : decode cX6_holdOf 11 = .ok (.iaload, 1) := by decide +kernel
theorem dX6_holdOf_12 : decode cX6_holdOf 12 = .ok (.invokestatic 31, 3) := by decide +kernel
theorem dX6_holdOf_15 : decode cX6_holdOf 15 = .ok (.ireturn, 1) := by decide +kernel
theorem dX6_knocksOf_0 : decode cX6_knocksOf 0 = .ok (.aload_n 0, 1) := by decide +kernel
theorem dX6_knocksOf_1 : decode cX6_knocksOf 1 = .ok (.getfield 21, 3) := by decide +kernel
theorem dX6_knocksOf_4 : decode cX6_knocksOf 4 = .ok (.iload_n 1, 1) := by decide +kernel
theorem dX6_knocksOf_5 : decode cX6_knocksOf 5 = .ok (.bipush 40, 2) := by decide +kernel
theorem dX6_knocksOf_7 : decode cX6_knocksOf 7 = .ok (.imul, 1) := by decide +kernel
theorem dX6_knocksOf_8 : decode cX6_knocksOf 8 = .ok (.iload_n 2, 1) := by decide +kernel
theorem dX6_knocksOf_9 : decode cX6_knocksOf 9 = .ok (.iadd, 1) := by decide +kernel
theorem dX6_knocksOf_10 : decode cX6_knocksOf 10 = .ok (.iaload, 1) := by decide +kernel
theorem dX6_knocksOf_11 : decode cX6_knocksOf 11 = .ok (.ireturn, 1) := by decide +kernel
theorem dX6_knockingOf_0 : decode cX6_knockingOf 0 = .ok (.lconst 0, 1) := by decide +kernel
theorem dX6_knockingOf_1 : decode cX6_knockingOf 1 = .ok (.lstore_n 2, 1) := by decide +kernel
theorem dX6_knockingOf_2 : decode cX6_knockingOf 2 = .ok (.iconst 0, 1) := by decide +kernel
theorem dX6_knockingOf_3 : decode cX6_knockingOf 3 = .ok (.istore 4, 2) := by decide +kernel
theorem dX6_knockingOf_5 : decode cX6_knockingOf 5 = .ok (.iload 4, 2) := by decide +kernel
theorem dX6_knockingOf_7 : decode cX6_knockingOf 7 = .ok (.bipush 40, 2) := by decide +kernel
theorem dX6_knockingOf_9 : decode cX6_knockingOf 9 = .ok (.if_icmp .ge 26, 3) := by decide +kernel
theorem dX6_knockingOf_12 : decode cX6_knockingOf 12 = .ok (.aload_n 0, 1) := by decide +kernel
theorem dX6_knockingOf_13 : decode cX6_knockingOf 13 = .ok (.iload_n 1, 1) := by decide +kernel
theorem dX6_knockingOf_14 : decode cX6_knockingOf 14 = .ok (.iload 4, 2) := by decide +kernel
theorem dX6_knockingOf_16 : decode cX6_knockingOf 16 = .ok (.invokevirtual 37, 3) := by decide +kernel
theorem dX6_knockingOf_19 : decode cX6_knockingOf 19 = .ok (.ifCond .le 10, 3) := by decide +kernel
theorem dX6_knockingOf_22 : decode cX6_knockingOf 22 = .ok (.lload_n 2, 1) := by decide +kernel
theorem dX6_knockingOf_23 : decode cX6_knockingOf 23 = .ok (.lconst 1, 1) := by decide +kernel
theorem dX6_knockingOf_24 : decode cX6_knockingOf 24 = .ok (.iload 4, 2) := by decide +kernel
theorem dX6_knockingOf_26 : decode cX6_knockingOf 26 = .ok (.lshl, 1) := by decide +kernel
theorem dX6_knockingOf_27 : decode cX6_knockingOf 27 = .ok (.lor, 1) := by decide +kernel
theorem dX6_knockingOf_28 : decode cX6_knockingOf 28 = .ok (.lstore_n 2, 1) := by decide +kernel
theorem dX6_knockingOf_29 : decode cX6_knockingOf 29 = .ok (.iinc 4 1, 3) := by decide +kernel
theorem dX6_knockingOf_32 : decode cX6_knockingOf 32 = .ok (.goto (-27), 3) := by decide +kernel
theorem dX6_knockingOf_35 : decode cX6_knockingOf 35 = .ok (.lload_n 2, 1) := by decide +kernel
theorem dX6_knockingOf_36 : decode cX6_knockingOf 36 = .ok (.lreturn, 1) := by decide +kernel
theorem dX6_read_0 : decode cX6_read 0 = .ok (.iconst 0, 1) := by decide +kernel
theorem dX6_read_1 : decode cX6_read 1 = .ok (.istore 4, 2) := by decide +kernel
theorem dX6_read_3 : decode cX6_read 3 = .ok (.iload 4, 2) := by decide +kernel
theorem dX6_read_5 : decode cX6_read 5 = .ok (.bipush 40, 2) := by decide +kernel
theorem dX6_read_7 : decode cX6_read 7 = .ok (.if_icmp .ge 35, 3) := by decide +kernel
theorem dX6_read_10 : decode cX6_read 10 = .ok (.aload_n 0, 1) := by decide +kernel
theorem dX6_read_11 : decode cX6_read 11 = .ok (.getfield 15, 3) := by decide +kernel
theorem dX6_read_14 : decode cX6_read 14 = .ok (.iload_n 3, 1) := by decide +kernel
theorem dX6_read_15 : decode cX6_read 15 = .ok (.bipush 40, 2) := by decide +kernel
theorem dX6_read_17 : decode cX6_read 17 = .ok (.imul, 1) := by decide +kernel
theorem dX6_read_18 : decode cX6_read 18 = .ok (.iload 4, 2) := by decide +kernel
theorem dX6_read_20 : decode cX6_read 20 = .ok (.iadd, 1) := by decide +kernel
theorem dX6_read_21 : decode cX6_read 21 = .ok (.iconst 0, 1) := by decide +kernel
theorem dX6_read_22 : decode cX6_read 22 = .ok (.iastore, 1) := by decide +kernel
theorem dX6_read_23 : decode cX6_read 23 = .ok (.aload_n 0, 1) := by decide +kernel
theorem dX6_read_24 : decode cX6_read 24 = .ok (.getfield 18, 3) := by decide +kernel
theorem dX6_read_27 : decode cX6_read 27 = .ok (.iload_n 3, 1) := by decide +kernel
theorem dX6_read_28 : decode cX6_read 28 = .ok (.bipush 40, 2) := by decide +kernel
theorem dX6_read_30 : decode cX6_read 30 = .ok (.imul, 1) := by decide +kernel
theorem dX6_read_31 : decode cX6_read 31 = .ok (.iload 4, 2) := by decide +kernel
theorem dX6_read_33 : decode cX6_read 33 = .ok (.iadd, 1) := by decide +kernel
theorem dX6_read_34 : decode cX6_read 34 = .ok (.iconst 0, 1) := by decide +kernel
theorem dX6_read_35 : decode cX6_read 35 = .ok (.iastore, 1) := by decide +kernel
theorem dX6_read_36 : decode cX6_read 36 = .ok (.iinc 4 1, 3) := by decide +kernel
theorem dX6_read_39 : decode cX6_read 39 = .ok (.goto (-36), 3) := by decide +kernel
theorem dX6_read_42 : decode cX6_read 42 = .ok (.aload_n 0, 1) := by decide +kernel
theorem dX6_read_43 : decode cX6_read 43 = .ok (.getfield 24, 3) := by decide +kernel
theorem dX6_read_46 : decode cX6_read 46 = .ok (.iload_n 3, 1) := by decide +kernel
theorem dX6_read_47 : decode cX6_read 47 = .ok (.ldc2_w 40, 3) := by decide +kernel
theorem dX6_read_50 : decode cX6_read 50 = .ok (.lastore, 1) := by decide +kernel
theorem dX6_read_51 : decode cX6_read 51 = .ok (.iconst 0, 1) := by decide +kernel
theorem dX6_read_52 : decode cX6_read 52 = .ok (.istore 4, 2) := by decide +kernel
theorem dX6_read_54 : decode cX6_read 54 = .ok (.iconst 0, 1) := by decide +kernel
theorem dX6_read_55 : decode cX6_read 55 = .ok (.istore 5, 2) := by decide +kernel
theorem dX6_read_57 : decode cX6_read 57 = .ok (.iload 5, 2) := by decide +kernel
theorem dX6_read_59 : decode cX6_read 59 = .ok (.aload_n 1, 1) := by decide +kernel
theorem dX6_read_60 : decode cX6_read 60 = .ok (.getfield 42, 3) := by decide +kernel
theorem dX6_read_63 : decode cX6_read 63 = .ok (.if_icmp .ge 85, 3) := by decide +kernel
theorem dX6_read_66 : decode cX6_read 66 = .ok (.aload_n 0, 1) := by decide +kernel
theorem dX6_read_67 : decode cX6_read 67 = .ok (.aload_n 1, 1) := by decide +kernel
theorem dX6_read_68 : decode cX6_read 68 = .ok (.iload 4, 2) := by decide +kernel
theorem dX6_read_70 : decode cX6_read 70 = .ok (.aload_n 1, 1) := by decide +kernel
theorem dX6_read_71 : decode cX6_read 71 = .ok (.getfield 48, 3) := by decide +kernel
theorem dX6_read_74 : decode cX6_read 74 = .ok (.iload 5, 2) := by decide +kernel
theorem dX6_read_76 : decode cX6_read 76 = .ok (.iaload, 1) := by decide +kernel
theorem dX6_read_77 : decode cX6_read 77 = .ok (.aload_n 2, 1) := by decide +kernel
theorem dX6_read_78 : decode cX6_read 78 = .ok (.iload_n 3, 1) := by decide +kernel
theorem dX6_read_79 : decode cX6_read 79 = .ok (.invokevirtual 51, 3) := by decide +kernel
theorem dX6_read_82 : decode cX6_read 82 = .ok (.lstore 6, 2) := by decide +kernel
theorem dX6_read_84 : decode cX6_read 84 = .ok (.aload_n 0, 1) := by decide +kernel
theorem dX6_read_85 : decode cX6_read 85 = .ok (.getfield 24, 3) := by decide +kernel
theorem dX6_read_88 : decode cX6_read 88 = .ok (.iload_n 3, 1) := by decide +kernel
theorem dX6_read_89 : decode cX6_read 89 = .ok (.dup2, 1) := by decide +kernel
theorem dX6_read_90 : decode cX6_read 90 = .ok (.laload, 1) := by decide +kernel
theorem dX6_read_91 : decode cX6_read 91 = .ok (.lload 6, 2) := by decide +kernel
theorem dX6_read_93 : decode cX6_read 93 = .ok (.ldc2_w 55, 3) := by decide +kernel
theorem dX6_read_96 : decode cX6_read 96 = .ok (.lxor, 1) := by decide +kernel
theorem dX6_read_97 : decode cX6_read 97 = .ok (.land, 1) := by decide +kernel
theorem dX6_read_98 : decode cX6_read 98 = .ok (.lastore, 1) := by decide +kernel
theorem dX6_read_99 : decode cX6_read 99 = .ok (.aload_n 1, 1) := by decide +kernel
theorem dX6_read_100 : decode cX6_read 100 = .ok (.getfield 57, 3) := by decide +kernel
theorem dX6_read_103 : decode cX6_read 103 = .ok (.iload 5, 2) := by decide +kernel
theorem dX6_read_105 : decode cX6_read 105 = .ok (.baload, 1) := by decide +kernel
theorem dX6_read_106 : decode cX6_read 106 = .ok (.ifCond .eq 10, 3) := by decide +kernel
theorem dX6_read_109 : decode cX6_read 109 = .ok (.aload_n 0, 1) := by decide +kernel
theorem dX6_read_110 : decode cX6_read 110 = .ok (.getfield 15, 3) := by decide +kernel
theorem dX6_read_113 : decode cX6_read 113 = .ok (.goto 7, 3) := by decide +kernel
theorem dX6_read_116 : decode cX6_read 116 = .ok (.aload_n 0, 1) := by decide +kernel
theorem dX6_read_117 : decode cX6_read 117 = .ok (.getfield 18, 3) := by decide +kernel
theorem dX6_read_120 : decode cX6_read 120 = .ok (.iload_n 3, 1) := by decide +kernel
theorem dX6_read_121 : decode cX6_read 121 = .ok (.lload 6, 2) := by decide +kernel
theorem dX6_read_123 : decode cX6_read 123 = .ok (.aload_n 1, 1) := by decide +kernel
theorem dX6_read_124 : decode cX6_read 124 = .ok (.getfield 61, 3) := by decide +kernel
theorem dX6_read_127 : decode cX6_read 127 = .ok (.iload 5, 2) := by decide +kernel
theorem dX6_read_129 : decode cX6_read 129 = .ok (.iaload, 1) := by decide +kernel
theorem dX6_read_130 : decode cX6_read 130 = .ok (.invokestatic 64, 3) := by decide +kernel
theorem dX6_read_133 : decode cX6_read 133 = .ok (.aload_n 1, 1) := by decide +kernel
theorem dX6_read_134 : decode cX6_read 134 = .ok (.getfield 48, 3) := by decide +kernel
theorem dX6_read_137 : decode cX6_read 137 = .ok (.iload 5, 2) := by decide +kernel
theorem dX6_read_139 : decode cX6_read 139 = .ok (.iaload, 1) := by decide +kernel
theorem dX6_read_140 : decode cX6_read 140 = .ok (.istore 4, 2) := by decide +kernel
theorem dX6_read_142 : decode cX6_read 142 = .ok (.iinc 5 1, 3) := by decide +kernel
theorem dX6_read_145 : decode cX6_read 145 = .ok (.goto (-88), 3) := by decide +kernel
theorem dX6_read_148 : decode cX6_read 148 = .ok (.return_, 1) := by decide +kernel
theorem dX6_addTo_0 : decode cX6_addTo 0 = .ok (.iconst 0, 1) := by decide +kernel
theorem dX6_addTo_1 : decode cX6_addTo 1 = .ok (.istore 5, 2) := by decide +kernel
theorem dX6_addTo_3 : decode cX6_addTo 3 = .ok (.iload 5, 2) := by decide +kernel
theorem dX6_addTo_5 : decode cX6_addTo 5 = .ok (.bipush 40, 2) := by decide +kernel
theorem dX6_addTo_7 : decode cX6_addTo 7 = .ok (.if_icmp .ge 34, 3) := by decide +kernel
theorem dX6_addTo_10 : decode cX6_addTo 10 = .ok (.lload_n 2, 1) := by decide +kernel
theorem dX6_addTo_11 : decode cX6_addTo 11 = .ok (.iload 5, 2) := by decide +kernel
theorem dX6_addTo_13 : decode cX6_addTo 13 = .ok (.lshr, 1) := by decide +kernel
theorem dX6_addTo_14 : decode cX6_addTo 14 = .ok (.lconst 1, 1) := by decide +kernel
theorem dX6_addTo_15 : decode cX6_addTo 15 = .ok (.land, 1) := by decide +kernel
theorem dX6_addTo_16 : decode cX6_addTo 16 = .ok (.lconst 0, 1) := by decide +kernel
theorem dX6_addTo_17 : decode cX6_addTo 17 = .ok (.lcmp, 1) := by decide +kernel
theorem dX6_addTo_18 : decode cX6_addTo 18 = .ok (.ifCond .eq 17, 3) := by decide +kernel
theorem dX6_addTo_21 : decode cX6_addTo 21 = .ok (.aload_n 0, 1) := by decide +kernel
theorem dX6_addTo_22 : decode cX6_addTo 22 = .ok (.iload_n 1, 1) := by decide +kernel
theorem dX6_addTo_23 : decode cX6_addTo 23 = .ok (.bipush 40, 2) := by decide +kernel
theorem dX6_addTo_25 : decode cX6_addTo 25 = .ok (.imul, 1) := by decide +kernel
theorem dX6_addTo_26 : decode cX6_addTo 26 = .ok (.iload 5, 2) := by decide +kernel
theorem dX6_addTo_28 : decode cX6_addTo 28 = .ok (.iadd, 1) := by decide +kernel
theorem dX6_addTo_29 : decode cX6_addTo 29 = .ok (.dup2, 1) := by decide +kernel
theorem dX6_addTo_30 : decode cX6_addTo 30 = .ok (.iaload, 1) := by decide +kernel
theorem dX6_addTo_31 : decode cX6_addTo 31 = .ok (.iload 4, 2) := by decide +kernel
theorem dX6_addTo_33 : decode cX6_addTo 33 = .ok (.iadd, 1) := by decide +kernel
theorem dX6_addTo_34 : decode cX6_addTo 34 = .ok (.iastore, 1) := by decide +kernel
theorem dX6_addTo_35 : decode cX6_addTo 35 = .ok (.iinc 5 1, 3) := by decide +kernel
theorem dX6_addTo_38 : decode cX6_addTo 38 = .ok (.goto (-35), 3) := by decide +kernel
theorem dX6_addTo_41 : decode cX6_addTo 41 = .ok (.return_, 1) := by decide +kernel
theorem dX6_holds_0 : decode cX6_holds 0 = .ok (.iconst 0, 1) := by decide +kernel
theorem dX6_holds_1 : decode cX6_holds 1 = .ok (.istore 6, 2) := by decide +kernel
theorem dX6_holds_3 : decode cX6_holds 3 = .ok (.iload_n 2, 1) := by decide +kernel
theorem dX6_holds_4 : decode cX6_holds 4 = .ok (.istore 7, 2) := by decide +kernel
theorem dX6_holds_6 : decode cX6_holds 6 = .ok (.iload 7, 2) := by decide +kernel
theorem dX6_holds_8 : decode cX6_holds 8 = .ok (.iload_n 3, 1) := by decide +kernel
theorem dX6_holds_9 : decode cX6_holds 9 = .ok (.if_icmp .ge 152, 3) := by decide +kernel
theorem dX6_holds_12 : decode cX6_holds 12 = .ok (.iload 7, 2) := by decide +kernel
theorem dX6_holds_14 : decode cX6_holds 14 = .ok (.bipush 120, 2) := by decide +kernel
theorem dX6_holds_16 : decode cX6_holds 16 = .ok (.if_icmp .ge 145, 3) := by decide +kernel
theorem dX6_holds_19 : decode cX6_holds 19 = .ok (.aload_n 1, 1) := by decide +kernel
theorem dX6_holds_20 : decode cX6_holds 20 = .ok (.getfield 68, 3) := by decide +kernel
theorem dX6_holds_23 : decode cX6_holds 23 = .ok (.iload 7, 2) := by decide +kernel
theorem dX6_holds_25 : decode cX6_holds 25 = .ok (.iaload, 1) := by decide +kernel
theorem dX6_holds_26 : decode cX6_holds 26 = .ok (.istore 8, 2) := by decide +kernel
theorem dX6_holds_28 : decode cX6_holds 28 = .ok (.iload 8, 2) := by decide +kernel
theorem dX6_holds_30 : decode cX6_holds 30 = .ok (.ifCond .lt 34, 3) := by decide +kernel
theorem dX6_holds_33 : decode cX6_holds 33 = .ok (.iload 6, 2) := by decide +kernel
theorem dX6_holds_35 : decode cX6_holds 35 = .ok (.bipush 16, 2) := by decide +kernel
theorem dX6_holds_37 : decode cX6_holds 37 = .ok (.if_icmp .lt 5, 3) := by decide +kernel
theorem dX6_holds_40 : decode cX6_holds 40 = .ok (.lconst 0, 1) := by decide +kernel
theorem dX6_holds_41 : decode cX6_holds 41 = .ok (.lreturn, 1) := by decide +kernel
theorem dX6_holds_42 : decode cX6_holds 42 = .ok (.aload_n 0, 1) := by decide +kernel
theorem dX6_holds_43 : decode cX6_holds 43 = .ok (.getfield 28, 3) := by decide +kernel
theorem dX6_holds_46 : decode cX6_holds 46 = .ok (.iload 6, 2) := by decide +kernel
theorem dX6_holds_48 : decode cX6_holds 48 = .ok (.iload 8, 2) := by decide +kernel
theorem dX6_holds_50 : decode cX6_holds 50 = .ok (.aload 4, 2) := by decide +kernel
theorem dX6_holds_52 : decode cX6_holds 52 = .ok (.iload 5, 2) := by decide +kernel
theorem dX6_holds_54 : decode cX6_holds 54 = .ok (.invokestatic 71, 3) := by decide +kernel
theorem dX6_holds_57 : decode cX6_holds 57 = .ok (.lastore, 1) := by decide +kernel
theorem dX6_holds_58 : decode cX6_holds 58 = .ok (.iinc 6 1, 3) := by decide +kernel
theorem dX6_holds_61 : decode cX6_holds 61 = .ok (.goto 94, 3) := by decide +kernel
theorem dX6_holds_64 : decode cX6_holds 64 = .ok (.iload 8, 2) := by decide +kernel
theorem dX6_holds_66 : decode cX6_holds 66 = .ok (.iconst (-1), 1) := by decide +kernel
theorem dX6_holds_67 : decode cX6_holds 67 = .ok (.if_icmp .ne 29, 3) := by decide +kernel
theorem dX6_holds_70 : decode cX6_holds 70 = .ok (.iload 6, 2) := by decide +kernel
theorem dX6_holds_72 : decode cX6_holds 72 = .ok (.iconst 1, 1) := by decide +kernel
theorem dX6_holds_73 : decode cX6_holds 73 = .ok (.if_icmp .ge 5, 3) := by decide +kernel
theorem dX6_holds_76 : decode cX6_holds 76 = .ok (.lconst 0, 1) := by decide +kernel
theorem dX6_holds_77 : decode cX6_holds 77 = .ok (.lreturn, 1) := by decide +kernel
theorem dX6_holds_78 : decode cX6_holds 78 = .ok (.aload_n 0, 1) := by decide +kernel
theorem dX6_holds_79 : decode cX6_holds 79 = .ok (.getfield 28, 3) := by decide +kernel
theorem dX6_holds_82 : decode cX6_holds 82 = .ok (.iload 6, 2) := by decide +kernel
theorem dX6_holds_84 : decode cX6_holds 84 = .ok (.iconst 1, 1) := by decide +kernel
theorem dX6_holds_85 : decode cX6_holds 85 = .ok (.isub, 1) := by decide +kernel
theorem dX6_holds_86 : decode cX6_holds 86 = .ok (.dup2, 1) := by decide +kernel
theorem dX6_holds_87 : decode cX6_holds 87 = .ok (.laload, 1) := by decide +kernel
theorem dX6_holds_88 : decode cX6_holds 88 = .ok (.ldc2_w 40, 3) := by decide +kernel
theorem dX6_holds_91 : decode cX6_holds 91 = .ok (.lxor, 1) := by decide +kernel
theorem dX6_holds_92 : decode cX6_holds 92 = .ok (.lastore, 1) := by decide +kernel
theorem dX6_holds_93 : decode cX6_holds 93 = .ok (.goto 62, 3) := by decide +kernel
theorem dX6_holds_96 : decode cX6_holds 96 = .ok (.iload 6, 2) := by decide +kernel
theorem dX6_holds_98 : decode cX6_holds 98 = .ok (.iconst 2, 1) := by decide +kernel
theorem dX6_holds_99 : decode cX6_holds 99 = .ok (.if_icmp .ge 5, 3) := by decide +kernel
theorem dX6_holds_102 : decode cX6_holds 102 = .ok (.lconst 0, 1) := by decide +kernel
theorem dX6_holds_103 : decode cX6_holds 103 = .ok (.lreturn, 1) := by decide +kernel
theorem dX6_holds_104 : decode cX6_holds 104 = .ok (.iinc 6 (-1), 3) := by decide +kernel
theorem dX6_holds_107 : decode cX6_holds 107 = .ok (.iload 8, 2) := by decide +kernel
theorem dX6_holds_109 : decode cX6_holds 109 = .ok (.bipush (-2), 2) := by decide +kernel
theorem dX6_holds_111 : decode cX6_holds 111 = .ok (.if_icmp .ne 25, 3) := by decide +kernel
theorem dX6_holds_114 : decode cX6_holds 114 = .ok (.aload_n 0, 1) := by decide +kernel
theorem dX6_holds_115 : decode cX6_holds 115 = .ok (.getfield 28, 3) := by decide +kernel
theorem dX6_holds_118 : decode cX6_holds 118 = .ok (.iload 6, 2) := by decide +kernel
theorem dX6_holds_120 : decode cX6_holds 120 = .ok (.iconst 1, 1) := by decide +kernel
theorem dX6_holds_121 : decode cX6_holds 121 = .ok (.isub, 1) := by decide +kernel
theorem dX6_holds_122 : decode cX6_holds 122 = .ok (.dup2, 1) := by decide +kernel
theorem dX6_holds_123 : decode cX6_holds 123 = .ok (.laload, 1) := by decide +kernel
theorem dX6_holds_124 : decode cX6_holds 124 = .ok (.aload_n 0, 1) := by decide +kernel
theorem dX6_holds_125 : decode cX6_holds 125 = .ok (.getfield 28, 3) := by decide +kernel
theorem dX6_holds_128 : decode cX6_holds 128 = .ok (.iload 6, 2) := by decide +kernel
theorem dX6_holds_130 : decode cX6_holds 130 = .ok (.laload, 1) := by decide +kernel
theorem dX6_holds_131 : decode cX6_holds 131 = .ok (.land, 1) := by decide +kernel
theorem dX6_holds_132 : decode cX6_holds 132 = .ok (.lastore, 1) := by decide +kernel
theorem dX6_holds_133 : decode cX6_holds 133 = .ok (.goto 22, 3) := by decide +kernel
theorem dX6_holds_136 : decode cX6_holds 136 = .ok (.aload_n 0, 1) := by decide +kernel
theorem dX6_holds_137 : decode cX6_holds 137 = .ok (.getfield 28, 3) := by decide +kernel
theorem dX6_holds_140 : decode cX6_holds 140 = .ok (.iload 6, 2) := by decide +kernel
theorem dX6_holds_142 : decode cX6_holds 142 = .ok (.iconst 1, 1) := by decide +kernel
theorem dX6_holds_143 : decode cX6_holds 143 = .ok (.isub, 1) := by decide +kernel
theorem dX6_holds_144 : decode cX6_holds 144 = .ok (.dup2, 1) := by decide +kernel
theorem dX6_holds_145 : decode cX6_holds 145 = .ok (.laload, 1) := by decide +kernel
theorem dX6_holds_146 : decode cX6_holds 146 = .ok (.aload_n 0, 1) := by decide +kernel
theorem dX6_holds_147 : decode cX6_holds 147 = .ok (.getfield 28, 3) := by decide +kernel
theorem dX6_holds_150 : decode cX6_holds 150 = .ok (.iload 6, 2) := by decide +kernel
theorem dX6_holds_152 : decode cX6_holds 152 = .ok (.laload, 1) := by decide +kernel
theorem dX6_holds_153 : decode cX6_holds 153 = .ok (.lor, 1) := by decide +kernel
theorem dX6_holds_154 : decode cX6_holds 154 = .ok (.lastore, 1) := by decide +kernel
theorem dX6_holds_155 : decode cX6_holds 155 = .ok (.iinc 7 1, 3) := by decide +kernel
theorem dX6_holds_158 : decode cX6_holds 158 = .ok (.goto (-152), 3) := by decide +kernel
theorem dX6_holds_161 : decode cX6_holds 161 = .ok (.iload 6, 2) := by decide +kernel
theorem dX6_holds_163 : decode cX6_holds 163 = .ok (.iconst 1, 1) := by decide +kernel
theorem dX6_holds_164 : decode cX6_holds 164 = .ok (.if_icmp .ne 12, 3) := by decide +kernel
theorem dX6_holds_167 : decode cX6_holds 167 = .ok (.aload_n 0, 1) := by decide +kernel
theorem dX6_holds_168 : decode cX6_holds 168 = .ok (.getfield 28, 3) := by decide +kernel
theorem dX6_holds_171 : decode cX6_holds 171 = .ok (.iconst 0, 1) := by decide +kernel
theorem dX6_holds_172 : decode cX6_holds 172 = .ok (.laload, 1) := by decide +kernel
theorem dX6_holds_173 : decode cX6_holds 173 = .ok (.goto 4, 3) := by decide +kernel
theorem dX6_holds_176 : decode cX6_holds 176 = .ok (.lconst 0, 1) := by decide +kernel
theorem dX6_holds_177 : decode cX6_holds 177 = .ok (.lreturn, 1) := by decide +kernel
theorem dX6_minutesOf_0 : decode cX6_minutesOf 0 = .ok (.iload_n 0, 1) := by decide +kernel
theorem dX6_minutesOf_1 : decode cX6_minutesOf 1 = .ok (.invokestatic 75, 3) := by decide +kernel
theorem dX6_minutesOf_4 : decode cX6_minutesOf 4 = .ok (.tableswitch 67 0 3 #[32, 37, 47, 57], 32) := by decide +kernel
theorem dX6_minutesOf_36 : decode cX6_minutesOf 36 = .ok (.iload_n 2, 1) := by decide +kernel
theorem dX6_minutesOf_37 : decode cX6_minutesOf 37 = .ok (.istore_n 3, 1) := by decide +kernel
theorem dX6_minutesOf_38 : decode cX6_minutesOf 38 = .ok (.goto 38, 3) := by decide +kernel
theorem dX6_minutesOf_41 : decode cX6_minutesOf 41 = .ok (.aload_n 1, 1) := by decide +kernel
theorem dX6_minutesOf_42 : decode cX6_minutesOf 42 = .ok (.getfield 81, 3) := by decide +kernel
theorem dX6_minutesOf_45 : decode cX6_minutesOf 45 = .ok (.iload_n 2, 1) := by decide +kernel
theorem dX6_minutesOf_46 : decode cX6_minutesOf 46 = .ok (.iaload, 1) := by decide +kernel
theorem dX6_minutesOf_47 : decode cX6_minutesOf 47 = .ok (.istore_n 3, 1) := by decide +kernel
theorem dX6_minutesOf_48 : decode cX6_minutesOf 48 = .ok (.goto 28, 3) := by decide +kernel
theorem dX6_minutesOf_51 : decode cX6_minutesOf 51 = .ok (.aload_n 1, 1) := by decide +kernel
theorem dX6_minutesOf_52 : decode cX6_minutesOf 52 = .ok (.getfield 86, 3) := by decide +kernel
theorem dX6_minutesOf_55 : decode cX6_minutesOf 55 = .ok (.iload_n 2, 1) := by decide +kernel
theorem dX6_minutesOf_56 : decode cX6_minutesOf 56 = .ok (.iaload, 1) := by decide +kernel
theorem dX6_minutesOf_57 : decode cX6_minutesOf 57 = .ok (.istore_n 3, 1) := by decide +kernel
theorem dX6_minutesOf_58 : decode cX6_minutesOf 58 = .ok (.goto 18, 3) := by decide +kernel
theorem dX6_minutesOf_61 : decode cX6_minutesOf 61 = .ok (.aload_n 1, 1) := by decide +kernel
theorem dX6_minutesOf_62 : decode cX6_minutesOf 62 = .ok (.getfield 89, 3) := by decide +kernel
theorem dX6_minutesOf_65 : decode cX6_minutesOf 65 = .ok (.iload_n 2, 1) := by decide +kernel
theorem dX6_minutesOf_66 : decode cX6_minutesOf 66 = .ok (.iaload, 1) := by decide +kernel
theorem dX6_minutesOf_67 : decode cX6_minutesOf 67 = .ok (.istore_n 3, 1) := by decide +kernel
theorem dX6_minutesOf_68 : decode cX6_minutesOf 68 = .ok (.goto 8, 3) := by decide +kernel
theorem dX6_minutesOf_71 : decode cX6_minutesOf 71 = .ok (.iload_n 0, 1) := by decide +kernel
theorem dX6_minutesOf_72 : decode cX6_minutesOf 72 = .ok (.invokestatic 92, 3) := by decide +kernel
theorem dX6_minutesOf_75 : decode cX6_minutesOf 75 = .ok (.lreturn, 1) := by decide +kernel
theorem dX6_minutesOf_76 : decode cX6_minutesOf 76 = .ok (.iload_n 0, 1) := by decide +kernel
theorem dX6_minutesOf_77 : decode cX6_minutesOf 77 = .ok (.iload_n 3, 1) := by decide +kernel
theorem dX6_minutesOf_78 : decode cX6_minutesOf 78 = .ok (.invokestatic 96, 3) := by decide +kernel
theorem dX6_minutesOf_81 : decode cX6_minutesOf 81 = .ok (.ifCond .eq 9, 3) := by decide +kernel
theorem dX6_minutesOf_84 : decode cX6_minutesOf 84 = .ok (.ldc2_w 40, 3) := by decide +kernel
theorem dX6_minutesOf_87 : decode cX6_minutesOf 87 = .ok (.goto 4, 3) := by decide +kernel
theorem dX6_minutesOf_90 : decode cX6_minutesOf 90 = .ok (.lconst 0, 1) := by decide +kernel
theorem dX6_minutesOf_91 : decode cX6_minutesOf 91 = .ok (.lreturn, 1) := by decide +kernel
theorem dX6_warm_0 : decode cX6_warm 0 = .ok (.iconst 0, 1) := by decide +kernel
theorem dX6_warm_1 : decode cX6_warm 1 = .ok (.istore 4, 2) := by decide +kernel
theorem dX6_warm_3 : decode cX6_warm 3 = .ok (.iconst 0, 1) := by decide +kernel
theorem dX6_warm_4 : decode cX6_warm 4 = .ok (.istore 5, 2) := by decide +kernel
theorem dX6_warm_6 : decode cX6_warm 6 = .ok (.iload 5, 2) := by decide +kernel
theorem dX6_warm_8 : decode cX6_warm 8 = .ok (.bipush 40, 2) := by decide +kernel
theorem dX6_warm_10 : decode cX6_warm 10 = .ok (.if_icmp .ge 77, 3) := by decide +kernel
theorem dX6_warm_13 : decode cX6_warm 13 = .ok (.lload_n 2, 1) := by decide +kernel
theorem dX6_warm_14 : decode cX6_warm 14 = .ok (.iload 5, 2) := by decide +kernel
theorem dX6_warm_16 : decode cX6_warm 16 = .ok (.lshr, 1) := by decide +kernel
theorem dX6_warm_17 : decode cX6_warm 17 = .ok (.lconst 1, 1) := by decide +kernel
theorem dX6_warm_18 : decode cX6_warm 18 = .ok (.land, 1) := by decide +kernel
theorem dX6_warm_19 : decode cX6_warm 19 = .ok (.lconst 0, 1) := by decide +kernel
theorem dX6_warm_20 : decode cX6_warm 20 = .ok (.lcmp, 1) := by decide +kernel
theorem dX6_warm_21 : decode cX6_warm 21 = .ok (.ifCond .eq 7, 3) := by decide +kernel
theorem dX6_warm_24 : decode cX6_warm 24 = .ok (.iconst 1, 1) := by decide +kernel
theorem dX6_warm_25 : decode cX6_warm 25 = .ok (.goto 4, 3) := by decide +kernel
theorem dX6_warm_28 : decode cX6_warm 28 = .ok (.iconst 0, 1) := by decide +kernel
theorem dX6_warm_29 : decode cX6_warm 29 = .ok (.istore 6, 2) := by decide +kernel
theorem dX6_warm_31 : decode cX6_warm 31 = .ok (.iload 6, 2) := by decide +kernel
theorem dX6_warm_33 : decode cX6_warm 33 = .ok (.ifCond .eq 15, 3) := by decide +kernel
theorem dX6_warm_36 : decode cX6_warm 36 = .ok (.iload 4, 2) := by decide +kernel
theorem dX6_warm_38 : decode cX6_warm 38 = .ok (.aload_n 1, 1) := by decide +kernel
theorem dX6_warm_39 : decode cX6_warm 39 = .ok (.getfield 99, 3) := by decide +kernel
theorem dX6_warm_42 : decode cX6_warm 42 = .ok (.iconst 0, 1) := by decide +kernel
theorem dX6_warm_43 : decode cX6_warm 43 = .ok (.iaload, 1) := by decide +kernel
theorem dX6_warm_44 : decode cX6_warm 44 = .ok (.iadd, 1) := by decide +kernel
theorem dX6_warm_45 : decode cX6_warm 45 = .ok (.goto 12, 3) := by decide +kernel
theorem dX6_warm_48 : decode cX6_warm 48 = .ok (.iload 4, 2) := by decide +kernel
theorem dX6_warm_50 : decode cX6_warm 50 = .ok (.aload_n 1, 1) := by decide +kernel
theorem dX6_warm_51 : decode cX6_warm 51 = .ok (.getfield 99, 3) := by decide +kernel
theorem dX6_warm_54 : decode cX6_warm 54 = .ok (.iconst 1, 1) := by decide +kernel
theorem dX6_warm_55 : decode cX6_warm 55 = .ok (.iaload, 1) := by decide +kernel
theorem dX6_warm_56 : decode cX6_warm 56 = .ok (.isub, 1) := by decide +kernel
theorem dX6_warm_57 : decode cX6_warm 57 = .ok (.istore 7, 2) := by decide +kernel
theorem dX6_warm_59 : decode cX6_warm 59 = .ok (.iconst 0, 1) := by decide +kernel
theorem dX6_warm_60 : decode cX6_warm 60 = .ok (.bipush 99, 2) := by decide +kernel
theorem dX6_warm_62 : decode cX6_warm 62 = .ok (.iload 7, 2) := by decide +kernel
theorem dX6_warm_64 : decode cX6_warm 64 = .ok (.invokestatic 102, 3) := by decide +kernel
theorem dX6_warm_67 : decode cX6_warm 67 = .ok (.invokestatic 31, 3) := by decide +kernel
theorem dX6_warm_70 : decode cX6_warm 70 = .ok (.istore 4, 2) := by decide +kernel
theorem dX6_warm_72 : decode cX6_warm 72 = .ok (.aload_n 0, 1) := by decide +kernel
theorem dX6_warm_73 : decode cX6_warm 73 = .ok (.getfield 9, 3) := by decide +kernel
theorem dX6_warm_76 : decode cX6_warm 76 = .ok (.iload 5, 2) := by decide +kernel
theorem dX6_warm_78 : decode cX6_warm 78 = .ok (.iload 4, 2) := by decide +kernel
theorem dX6_warm_80 : decode cX6_warm 80 = .ok (.iastore, 1) := by decide +kernel
theorem dX6_warm_81 : decode cX6_warm 81 = .ok (.iinc 5 1, 3) := by decide +kernel
theorem dX6_warm_84 : decode cX6_warm 84 = .ok (.goto (-78), 3) := by decide +kernel
theorem dX6_warm_87 : decode cX6_warm 87 = .ok (.return_, 1) := by decide +kernel
theorem dX6_knock_0 : decode cX6_knock 0 = .ok (.aload_n 1, 1) := by decide +kernel
theorem dX6_knock_1 : decode cX6_knock 1 = .ok (.getfield 89, 3) := by decide +kernel
theorem dX6_knock_4 : decode cX6_knock 4 = .ok (.iload_n 2, 1) := by decide +kernel
theorem dX6_knock_5 : decode cX6_knock 5 = .ok (.iaload, 1) := by decide +kernel
theorem dX6_knock_6 : decode cX6_knock 6 = .ok (.istore 7, 2) := by decide +kernel
theorem dX6_knock_8 : decode cX6_knock 8 = .ok (.lload_n 3, 1) := by decide +kernel
theorem dX6_knock_9 : decode cX6_knock 9 = .ok (.iconst 1, 1) := by decide +kernel
theorem dX6_knock_10 : decode cX6_knock 10 = .ok (.lshl, 1) := by decide +kernel
theorem dX6_knock_11 : decode cX6_knock 11 = .ok (.lload_n 3, 1) := by decide +kernel
theorem dX6_knock_12 : decode cX6_knock 12 = .ok (.ldc2_w 55, 3) := by decide +kernel
theorem dX6_knock_15 : decode cX6_knock 15 = .ok (.lxor, 1) := by decide +kernel
theorem dX6_knock_16 : decode cX6_knock 16 = .ok (.land, 1) := by decide +kernel
theorem dX6_knock_17 : decode cX6_knock 17 = .ok (.ldc2_w 40, 3) := by decide +kernel
theorem dX6_knock_20 : decode cX6_knock 20 = .ok (.land, 1) := by decide +kernel
theorem dX6_knock_21 : decode cX6_knock 21 = .ok (.lstore 8, 2) := by decide +kernel
theorem dX6_knock_23 : decode cX6_knock 23 = .ok (.lload_n 3, 1) := by decide +kernel
theorem dX6_knock_24 : decode cX6_knock 24 = .ok (.lload_n 3, 1) := by decide +kernel
theorem dX6_knock_25 : decode cX6_knock 25 = .ok (.iconst 1, 1) := by decide +kernel
theorem dX6_knock_26 : decode cX6_knock 26 = .ok (.lshl, 1) := by decide +kernel
theorem dX6_knock_27 : decode cX6_knock 27 = .ok (.ldc2_w 55, 3) := by decide +kernel
theorem dX6_knock_30 : decode cX6_knock 30 = .ok (.lxor, 1) := by decide +kernel
theorem dX6_knock_31 : decode cX6_knock 31 = .ok (.land, 1) := by decide +kernel
theorem dX6_knock_32 : decode cX6_knock 32 = .ok (.lstore 10, 2) := by decide +kernel
theorem dX6_knock_34 : decode cX6_knock 34 = .ok (.aload_n 1, 1) := by decide +kernel
theorem dX6_knock_35 : decode cX6_knock 35 = .ok (.getfield 86, 3) := by decide +kernel
theorem dX6_knock_38 : decode cX6_knock 38 = .ok (.iload_n 2, 1) := by decide +kernel
theorem dX6_knock_39 : decode cX6_knock 39 = .ok (.iaload, 1) := by decide +kernel
theorem dX6_knock_40 : decode cX6_knock 40 = .ok (.tableswitch 127 1 6 #[40, 58, 85, 49, 71, 102], 40) := by decide +kernel
theorem dX6_knock_80 : decode cX6_knock 80 = .ok (.aload_n 0, 1) := by decide +kernel
theorem dX6_knock_81 : decode cX6_knock 81 = .ok (.iload_n 2, 1) := by decide +kernel
theorem dX6_knock_82 : decode cX6_knock 82 = .ok (.iconst 0, 1) := by decide +kernel
theorem dX6_knock_83 : decode cX6_knock 83 = .ok (.invokevirtual 105, 3) := by decide +kernel
theorem dX6_knock_86 : decode cX6_knock 86 = .ok (.goto 101, 3) := by decide +kernel
theorem dX6_knock_89 : decode cX6_knock 89 = .ok (.aload_n 0, 1) := by decide +kernel
theorem dX6_knock_90 : decode cX6_knock 90 = .ok (.iload_n 2, 1) := by decide +kernel
theorem dX6_knock_91 : decode cX6_knock 91 = .ok (.iconst 1, 1) := by decide +kernel
theorem dX6_knock_92 : decode cX6_knock 92 = .ok (.invokevirtual 105, 3) := by decide +kernel
theorem dX6_knock_95 : decode cX6_knock 95 = .ok (.goto 92, 3) := by decide +kernel
theorem dX6_knock_98 : decode cX6_knock 98 = .ok (.aload_n 0, 1) := by decide +kernel
theorem dX6_knock_99 : decode cX6_knock 99 = .ok (.iload_n 2, 1) := by decide +kernel
theorem dX6_knock_100 : decode cX6_knock 100 = .ok (.lload 8, 2) := by decide +kernel
theorem dX6_knock_102 : decode cX6_knock 102 = .ok (.iload 7, 2) := by decide +kernel
theorem dX6_knock_104 : decode cX6_knock 104 = .ok (.lconst 0, 1) := by decide +kernel
theorem dX6_knock_105 : decode cX6_knock 105 = .ok (.invokevirtual 109, 3) := by decide +kernel
theorem dX6_knock_108 : decode cX6_knock 108 = .ok (.goto 79, 3) := by decide +kernel
theorem dX6_knock_111 : decode cX6_knock 111 = .ok (.aload_n 0, 1) := by decide +kernel
theorem dX6_knock_112 : decode cX6_knock 112 = .ok (.iload_n 2, 1) := by decide +kernel
theorem dX6_knock_113 : decode cX6_knock 113 = .ok (.lload 8, 2) := by decide +kernel
theorem dX6_knock_115 : decode cX6_knock 115 = .ok (.iload 7, 2) := by decide +kernel
theorem dX6_knock_117 : decode cX6_knock 117 = .ok (.lload 10, 2) := by decide +kernel
theorem dX6_knock_119 : decode cX6_knock 119 = .ok (.invokevirtual 109, 3) := by decide +kernel
theorem dX6_knock_122 : decode cX6_knock 122 = .ok (.goto 65, 3) := by decide +kernel
theorem dX6_knock_125 : decode cX6_knock 125 = .ok (.aload_n 0, 1) := by decide +kernel
theorem dX6_knock_126 : decode cX6_knock 126 = .ok (.iload_n 2, 1) := by decide +kernel
theorem dX6_knock_127 : decode cX6_knock 127 = .ok (.lconst 0, 1) := by decide +kernel
theorem dX6_knock_128 : decode cX6_knock 128 = .ok (.iconst 0, 1) := by decide +kernel
theorem dX6_knock_129 : decode cX6_knock 129 = .ok (.lload 5, 2) := by decide +kernel
theorem dX6_knock_131 : decode cX6_knock 131 = .ok (.iload 7, 2) := by decide +kernel
theorem dX6_knock_133 : decode cX6_knock 133 = .ok (.invokestatic 113, 3) := by decide +kernel
theorem dX6_knock_136 : decode cX6_knock 136 = .ok (.invokevirtual 109, 3) := by decide +kernel
theorem dX6_knock_139 : decode cX6_knock 139 = .ok (.goto 48, 3) := by decide +kernel
theorem dX6_knock_142 : decode cX6_knock 142 = .ok (.aload_n 0, 1) := by decide +kernel
theorem dX6_knock_143 : decode cX6_knock 143 = .ok (.iload_n 2, 1) := by decide +kernel
theorem dX6_knock_144 : decode cX6_knock 144 = .ok (.lconst 0, 1) := by decide +kernel
theorem dX6_knock_145 : decode cX6_knock 145 = .ok (.iconst 0, 1) := by decide +kernel
theorem dX6_knock_146 : decode cX6_knock 146 = .ok (.lload 5, 2) := by decide +kernel
theorem dX6_knock_148 : decode cX6_knock 148 = .ok (.ldc2_w 55, 3) := by decide +kernel
theorem dX6_knock_151 : decode cX6_knock 151 = .ok (.lxor, 1) := by decide +kernel
theorem dX6_knock_152 : decode cX6_knock 152 = .ok (.ldc2_w 40, 3) := by decide +kernel
theorem dX6_knock_155 : decode cX6_knock 155 = .ok (.land, 1) := by decide +kernel
theorem dX6_knock_156 : decode cX6_knock 156 = .ok (.iload 7, 2) := by decide +kernel
theorem dX6_knock_158 : decode cX6_knock 158 = .ok (.invokestatic 113, 3) := by decide +kernel
theorem dX6_knock_161 : decode cX6_knock 161 = .ok (.invokevirtual 109, 3) := by decide +kernel
theorem dX6_knock_164 : decode cX6_knock 164 = .ok (.goto 23, 3) := by decide +kernel
theorem dX6_knock_167 : decode cX6_knock 167 = .ok (.aload_n 0, 1) := by decide +kernel
theorem dX6_knock_168 : decode cX6_knock 168 = .ok (.iload_n 2, 1) := by decide +kernel
theorem dX6_knock_169 : decode cX6_knock 169 = .ok (.lconst 0, 1) := by decide +kernel
theorem dX6_knock_170 : decode cX6_knock 170 = .ok (.iconst 0, 1) := by decide +kernel
theorem dX6_knock_171 : decode cX6_knock 171 = .ok (.aload_n 0, 1) := by decide +kernel
theorem dX6_knock_172 : decode cX6_knock 172 = .ok (.getfield 24, 3) := by decide +kernel
theorem dX6_knock_175 : decode cX6_knock 175 = .ok (.iload_n 2, 1) := by decide +kernel
theorem dX6_knock_176 : decode cX6_knock 176 = .ok (.laload, 1) := by decide +kernel
theorem dX6_knock_177 : decode cX6_knock 177 = .ok (.ldc2_w 117, 3) := by decide +kernel
theorem dX6_knock_180 : decode cX6_knock 180 = .ok (.iload 7, 2) := by decide +kernel
theorem dX6_knock_182 : decode cX6_knock 182 = .ok (.lshl, 1) := by decide +kernel
theorem dX6_knock_183 : decode cX6_knock 183 = .ok (.land, 1) := by decide +kernel
theorem dX6_knock_184 : decode cX6_knock 184 = .ok (.invokevirtual 109, 3) := by decide +kernel
theorem dX6_knock_187 : decode cX6_knock 187 = .ok (.return_, 1) := by decide +kernel
theorem dX6_mark_0 : decode cX6_mark 0 = .ok (.iconst 0, 1) := by decide +kernel
theorem dX6_mark_1 : decode cX6_mark 1 = .ok (.istore 7, 2) := by decide +kernel
theorem dX6_mark_3 : decode cX6_mark 3 = .ok (.iload 7, 2) := by decide +kernel
theorem dX6_mark_5 : decode cX6_mark 5 = .ok (.bipush 40, 2) := by decide +kernel
theorem dX6_mark_7 : decode cX6_mark 7 = .ok (.if_icmp .ge 59, 3) := by decide +kernel
theorem dX6_mark_10 : decode cX6_mark 10 = .ok (.iconst 0, 1) := by decide +kernel
theorem dX6_mark_11 : decode cX6_mark 11 = .ok (.istore 8, 2) := by decide +kernel
theorem dX6_mark_13 : decode cX6_mark 13 = .ok (.lload_n 2, 1) := by decide +kernel
theorem dX6_mark_14 : decode cX6_mark 14 = .ok (.iload 7, 2) := by decide +kernel
theorem dX6_mark_16 : decode cX6_mark 16 = .ok (.lshr, 1) := by decide +kernel
theorem dX6_mark_17 : decode cX6_mark 17 = .ok (.lconst 1, 1) := by decide +kernel
theorem dX6_mark_18 : decode cX6_mark 18 = .ok (.land, 1) := by decide +kernel
theorem dX6_mark_19 : decode cX6_mark 19 = .ok (.lconst 0, 1) := by decide +kernel
theorem dX6_mark_20 : decode cX6_mark 20 = .ok (.lcmp, 1) := by decide +kernel
theorem dX6_mark_21 : decode cX6_mark 21 = .ok (.ifCond .eq 10, 3) := by decide +kernel
theorem dX6_mark_24 : decode cX6_mark 24 = .ok (.iload 8, 2) := by decide +kernel
theorem dX6_mark_26 : decode cX6_mark 26 = .ok (.iload 4, 2) := by decide +kernel
theorem dX6_mark_28 : decode cX6_mark 28 = .ok (.iadd, 1) := by decide +kernel
theorem dX6_mark_29 : decode cX6_mark 29 = .ok (.istore 8, 2) := by decide +kernel
theorem dX6_mark_31 : decode cX6_mark 31 = .ok (.lload 5, 2) := by decide +kernel
theorem dX6_mark_33 : decode cX6_mark 33 = .ok (.iload 7, 2) := by decide +kernel
theorem dX6_mark_35 : decode cX6_mark 35 = .ok (.lshr, 1) := by decide +kernel
theorem dX6_mark_36 : decode cX6_mark 36 = .ok (.lconst 1, 1) := by decide +kernel
theorem dX6_mark_37 : decode cX6_mark 37 = .ok (.land, 1) := by decide +kernel
theorem dX6_mark_38 : decode cX6_mark 38 = .ok (.lconst 0, 1) := by decide +kernel
theorem dX6_mark_39 : decode cX6_mark 39 = .ok (.lcmp, 1) := by decide +kernel
theorem dX6_mark_40 : decode cX6_mark 40 = .ok (.ifCond .eq 6, 3) := by decide +kernel
theorem dX6_mark_43 : decode cX6_mark 43 = .ok (.iinc 8 1, 3) := by decide +kernel
theorem dX6_mark_46 : decode cX6_mark 46 = .ok (.aload_n 0, 1) := by decide +kernel
theorem dX6_mark_47 : decode cX6_mark 47 = .ok (.getfield 21, 3) := by decide +kernel
theorem dX6_mark_50 : decode cX6_mark 50 = .ok (.iload_n 1, 1) := by decide +kernel
theorem dX6_mark_51 : decode cX6_mark 51 = .ok (.bipush 40, 2) := by decide +kernel
theorem dX6_mark_53 : decode cX6_mark 53 = .ok (.imul, 1) := by decide +kernel
theorem dX6_mark_54 : decode cX6_mark 54 = .ok (.iload 7, 2) := by decide +kernel
theorem dX6_mark_56 : decode cX6_mark 56 = .ok (.iadd, 1) := by decide +kernel
theorem dX6_mark_57 : decode cX6_mark 57 = .ok (.iload 8, 2) := by decide +kernel
theorem dX6_mark_59 : decode cX6_mark 59 = .ok (.iastore, 1) := by decide +kernel
theorem dX6_mark_60 : decode cX6_mark 60 = .ok (.iinc 7 1, 3) := by decide +kernel
theorem dX6_mark_63 : decode cX6_mark 63 = .ok (.goto (-60), 3) := by decide +kernel
theorem dX6_mark_66 : decode cX6_mark 66 = .ok (.return_, 1) := by decide +kernel
theorem dX6_lasting_0 : decode cX6_lasting 0 = .ok (.lload_n 0, 1) := by decide +kernel
theorem dX6_lasting_1 : decode cX6_lasting 1 = .ok (.lstore_n 3, 1) := by decide +kernel
theorem dX6_lasting_2 : decode cX6_lasting 2 = .ok (.iconst 1, 1) := by decide +kernel
theorem dX6_lasting_3 : decode cX6_lasting 3 = .ok (.istore 5, 2) := by decide +kernel
theorem dX6_lasting_5 : decode cX6_lasting 5 = .ok (.iload 5, 2) := by decide +kernel
theorem dX6_lasting_7 : decode cX6_lasting 7 = .ok (.iload_n 2, 1) := by decide +kernel
theorem dX6_lasting_8 : decode cX6_lasting 8 = .ok (.if_icmp .ge 23, 3) := by decide +kernel
theorem dX6_lasting_11 : decode cX6_lasting 11 = .ok (.iload 5, 2) := by decide +kernel
theorem dX6_lasting_13 : decode cX6_lasting 13 = .ok (.bipush 40, 2) := by decide +kernel
theorem dX6_lasting_15 : decode cX6_lasting 15 = .ok (.if_icmp .ge 16, 3) := by decide +kernel
theorem dX6_lasting_18 : decode cX6_lasting 18 = .ok (.lload_n 3, 1) := by decide +kernel
theorem dX6_lasting_19 : decode cX6_lasting 19 = .ok (.lload_n 0, 1) := by decide +kernel
theorem dX6_lasting_20 : decode cX6_lasting 20 = .ok (.iload 5, 2) := by decide +kernel
theorem dX6_lasting_22 : decode cX6_lasting 22 = .ok (.lshl, 1) := by decide +kernel
theorem dX6_lasting_23 : decode cX6_lasting 23 = .ok (.land, 1) := by decide +kernel
theorem dX6_lasting_24 : decode cX6_lasting 24 = .ok (.lstore_n 3, 1) := by decide +kernel
theorem dX6_lasting_25 : decode cX6_lasting 25 = .ok (.iinc 5 1, 3) := by decide +kernel
theorem dX6_lasting_28 : decode cX6_lasting 28 = .ok (.goto (-23), 3) := by decide +kernel
theorem dX6_lasting_31 : decode cX6_lasting 31 = .ok (.lload_n 3, 1) := by decide +kernel
theorem dX6_lasting_32 : decode cX6_lasting 32 = .ok (.lreturn, 1) := by decide +kernel
theorem dX6_tick_0 : decode cX6_tick 0 = .ok (.iconst 0, 1) := by decide +kernel
theorem dX6_tick_1 : decode cX6_tick 1 = .ok (.istore_n 3, 1) := by decide +kernel
theorem dX6_tick_2 : decode cX6_tick 2 = .ok (.iconst 0, 1) := by decide +kernel
theorem dX6_tick_3 : decode cX6_tick 3 = .ok (.istore 4, 2) := by decide +kernel
theorem dX6_tick_5 : decode cX6_tick 5 = .ok (.iconst 0, 1) := by decide +kernel
theorem dX6_tick_6 : decode cX6_tick 6 = .ok (.istore 5, 2) := by decide +kernel
theorem dX6_tick_8 : decode cX6_tick 8 = .ok (.iload 5, 2) := by decide +kernel
theorem dX6_tick_10 : decode cX6_tick 10 = .ok (.bipush 40, 2) := by decide +kernel
theorem dX6_tick_12 : decode cX6_tick 12 = .ok (.if_icmp .ge 92, 3) := by decide +kernel
theorem dX6_tick_15 : decode cX6_tick 15 = .ok (.aload_n 0, 1) := by decide +kernel
theorem dX6_tick_16 : decode cX6_tick 16 = .ok (.iload_n 1, 1) := by decide +kernel
theorem dX6_tick_17 : decode cX6_tick 17 = .ok (.iload 5, 2) := by decide +kernel
theorem dX6_tick_19 : decode cX6_tick 19 = .ok (.invokevirtual 119, 3) := by decide +kernel
theorem dX6_tick_22 : decode cX6_tick 22 = .ok (.istore 6, 2) := by decide +kernel
theorem dX6_tick_24 : decode cX6_tick 24 = .ok (.bipush 9, 2) := by decide +kernel
theorem dX6_tick_26 : decode cX6_tick 26 = .ok (.iload 6, 2) := by decide +kernel
theorem dX6_tick_28 : decode cX6_tick 28 = .ok (.iload_n 3, 1) := by decide +kernel
theorem dX6_tick_29 : decode cX6_tick 29 = .ok (.isub, 1) := by decide +kernel
theorem dX6_tick_30 : decode cX6_tick 30 = .ok (.invokestatic 122, 3) := by decide +kernel
theorem dX6_tick_33 : decode cX6_tick 33 = .ok (.aload_n 0, 1) := by decide +kernel
theorem dX6_tick_34 : decode cX6_tick 34 = .ok (.iload_n 1, 1) := by decide +kernel
theorem dX6_tick_35 : decode cX6_tick 35 = .ok (.iload 5, 2) := by decide +kernel
theorem dX6_tick_37 : decode cX6_tick 37 = .ok (.invokevirtual 125, 3) := by decide +kernel
theorem dX6_tick_40 : decode cX6_tick 40 = .ok (.idiv, 1) := by decide +kernel
theorem dX6_tick_41 : decode cX6_tick 41 = .ok (.invokestatic 102, 3) := by decide +kernel
theorem dX6_tick_44 : decode cX6_tick 44 = .ok (.istore 7, 2) := by decide +kernel
theorem dX6_tick_46 : decode cX6_tick 46 = .ok (.iload 7, 2) := by decide +kernel
theorem dX6_tick_48 : decode cX6_tick 48 = .ok (.iconst 1, 1) := by decide +kernel
theorem dX6_tick_49 : decode cX6_tick 49 = .ok (.if_icmp .lt 6, 3) := by decide +kernel
theorem dX6_tick_52 : decode cX6_tick 52 = .ok (.iload 6, 2) := by decide +kernel
theorem dX6_tick_54 : decode cX6_tick 54 = .ok (.istore_n 3, 1) := by decide +kernel
theorem dX6_tick_55 : decode cX6_tick 55 = .ok (.aload_n 0, 1) := by decide +kernel
theorem dX6_tick_56 : decode cX6_tick 56 = .ok (.getfield 21, 3) := by decide +kernel
theorem dX6_tick_59 : decode cX6_tick 59 = .ok (.iload_n 1, 1) := by decide +kernel
theorem dX6_tick_60 : decode cX6_tick 60 = .ok (.bipush 40, 2) := by decide +kernel
theorem dX6_tick_62 : decode cX6_tick 62 = .ok (.imul, 1) := by decide +kernel
theorem dX6_tick_63 : decode cX6_tick 63 = .ok (.iload 5, 2) := by decide +kernel
theorem dX6_tick_65 : decode cX6_tick 65 = .ok (.iadd, 1) := by decide +kernel
theorem dX6_tick_66 : decode cX6_tick 66 = .ok (.iload_n 2, 1) := by decide +kernel
theorem dX6_tick_67 : decode cX6_tick 67 = .ok (.ifCond .eq 19, 3) := by decide +kernel
theorem dX6_tick_70 : decode cX6_tick 70 = .ok (.aload_n 0, 1) := by decide +kernel
theorem dX6_tick_71 : decode cX6_tick 71 = .ok (.getfield 9, 3) := by decide +kernel
theorem dX6_tick_74 : decode cX6_tick 74 = .ok (.iload 5, 2) := by decide +kernel
theorem dX6_tick_76 : decode cX6_tick 76 = .ok (.iaload, 1) := by decide +kernel
theorem dX6_tick_77 : decode cX6_tick 77 = .ok (.iload 4, 2) := by decide +kernel
theorem dX6_tick_79 : decode cX6_tick 79 = .ok (.if_icmp .gt 7, 3) := by decide +kernel
theorem dX6_tick_82 : decode cX6_tick 82 = .ok (.iconst 0, 1) := by decide +kernel
theorem dX6_tick_83 : decode cX6_tick 83 = .ok (.goto 5, 3) := by decide +kernel
theorem dX6_tick_86 : decode cX6_tick 86 = .ok (.iload 7, 2) := by decide +kernel
theorem dX6_tick_88 : decode cX6_tick 88 = .ok (.iastore, 1) := by decide +kernel
theorem dX6_tick_89 : decode cX6_tick 89 = .ok (.aload_n 0, 1) := by decide +kernel
theorem dX6_tick_90 : decode cX6_tick 90 = .ok (.getfield 9, 3) := by decide +kernel
theorem dX6_tick_93 : decode cX6_tick 93 = .ok (.iload 5, 2) := by decide +kernel
theorem dX6_tick_95 : decode cX6_tick 95 = .ok (.iaload, 1) := by decide +kernel
theorem dX6_tick_96 : decode cX6_tick 96 = .ok (.istore 4, 2) := by decide +kernel
theorem dX6_tick_98 : decode cX6_tick 98 = .ok (.iinc 5 1, 3) := by decide +kernel
theorem dX6_tick_101 : decode cX6_tick 101 = .ok (.goto (-93), 3) := by decide +kernel
theorem dX6_tick_104 : decode cX6_tick 104 = .ok (.return_, 1) := by decide +kernel
theorem dX7_init_0 : decode cX7_init 0 = .ok (.aload_n 0, 1) := by decide +kernel
theorem dX7_init_1 : decode cX7_init 1 = .ok (.invokespecial 3, 3) := by decide +kernel
theorem dX7_init_4 : decode cX7_init 4 = .ok (.aload_n 0, 1) := by decide +kernel
theorem dX7_init_5 : decode cX7_init 5 = .ok (.bipush 120, 2) := by decide +kernel
theorem dX7_init_7 : decode cX7_init 7 = .ok (.newarray .int, 2) := by decide +kernel
theorem dX7_init_9 : decode cX7_init 9 = .ok (.putfield 9, 3) := by decide +kernel
theorem dX7_init_12 : decode cX7_init 12 = .ok (.aload_n 0, 1) := by decide +kernel
theorem dX7_init_13 : decode cX7_init 13 = .ok (.iconst 0, 1) := by decide +kernel
theorem dX7_init_14 : decode cX7_init 14 = .ok (.putfield 15, 3) := by decide +kernel
theorem dX7_init_17 : decode cX7_init 17 = .ok (.return_, 1) := by decide +kernel
theorem dX7_add_0 : decode cX7_add 0 = .ok (.aload_n 0, 1) := by decide +kernel
theorem dX7_add_1 : decode cX7_add 1 = .ok (.getfield 15, 3) := by decide +kernel
theorem dX7_add_4 : decode cX7_add 4 = .ok (.ifCond .lt 15, 3) := by decide +kernel
theorem dX7_add_7 : decode cX7_add 7 = .ok (.aload_n 0, 1) := by decide +kernel
theorem dX7_add_8 : decode cX7_add 8 = .ok (.getfield 15, 3) := by decide +kernel
theorem dX7_add_11 : decode cX7_add 11 = .ok (.aload_n 0, 1) := by decide +kernel
theorem dX7_add_12 : decode cX7_add 12 = .ok (.getfield 9, 3) := by decide +kernel
theorem dX7_add_15 : decode cX7_add 15 = .ok (.arraylength, 1) := by decide +kernel
theorem dX7_add_16 : decode cX7_add 16 = .ok (.if_icmp .lt 4, 3) := by decide +kernel
theorem dX7_add_19 : decode cX7_add 19 = .ok (.return_, 1) := by decide +kernel
theorem dX7_add_20 : decode cX7_add 20 = .ok (.aload_n 0, 1) := by decide +kernel
theorem dX7_add_21 : decode cX7_add 21 = .ok (.getfield 9, 3) := by decide +kernel
theorem dX7_add_24 : decode cX7_add 24 = .ok (.aload_n 0, 1) := by decide +kernel
theorem dX7_add_25 : decode cX7_add 25 = .ok (.getfield 15, 3) := by decide +kernel
theorem dX7_add_28 : decode cX7_add 28 = .ok (.iload_n 1, 1) := by decide +kernel
theorem dX7_add_29 : decode cX7_add 29 = .ok (.iastore, 1) := by decide +kernel
theorem dX7_add_30 : decode cX7_add 30 = .ok (.aload_n 0, 1) := by decide +kernel
theorem dX7_add_31 : decode cX7_add 31 = .ok (.dup, 1) := by decide +kernel
theorem dX7_add_32 : decode cX7_add 32 = .ok (.getfield 15, 3) := by decide +kernel
theorem dX7_add_35 : decode cX7_add 35 = .ok (.iconst 1, 1) := by decide +kernel
theorem dX7_add_36 : decode cX7_add 36 = .ok (.iadd, 1) := by decide +kernel
theorem dX7_add_37 : decode cX7_add 37 = .ok (.putfield 15, 3) := by decide +kernel
theorem dX7_add_40 : decode cX7_add 40 = .ok (.return_, 1) := by decide +kernel
theorem dX7_copy_0 : decode cX7_copy 0 = .ok (.aload_n 1, 1) := by decide +kernel
theorem dX7_copy_1 : decode cX7_copy 1 = .ok (.getfield 9, 3) := by decide +kernel
theorem dX7_copy_4 : decode cX7_copy 4 = .ok (.iconst 0, 1) := by decide +kernel
theorem dX7_copy_5 : decode cX7_copy 5 = .ok (.aload_n 0, 1) := by decide +kernel
theorem dX7_copy_6 : decode cX7_copy 6 = .ok (.getfield 9, 3) := by decide +kernel
theorem dX7_copy_9 : decode cX7_copy 9 = .ok (.iconst 0, 1) := by decide +kernel
theorem dX7_copy_10 : decode cX7_copy 10 = .ok (.bipush 120, 2) := by decide +kernel
theorem dX7_copy_12 : decode cX7_copy 12 = .ok (.invokestatic 19, 3) := by decide +kernel
theorem dX7_copy_15 : decode cX7_copy 15 = .ok (.aload_n 0, 1) := by decide +kernel
theorem dX7_copy_16 : decode cX7_copy 16 = .ok (.aload_n 1, 1) := by decide +kernel
theorem dX7_copy_17 : decode cX7_copy 17 = .ok (.getfield 15, 3) := by decide +kernel
theorem dX7_copy_20 : decode cX7_copy 20 = .ok (.putfield 15, 3) := by decide +kernel
theorem dX7_copy_23 : decode cX7_copy 23 = .ok (.return_, 1) := by decide +kernel
theorem dX8_code_0 : decode cX8_code 0 = .ok (.iload_n 0, 1) := by decide +kernel
theorem dX8_code_1 : decode cX8_code 1 = .ok (.iconst 3, 1) := by decide +kernel
theorem dX8_code_2 : decode cX8_code 2 = .ok (.imul, 1) := by decide +kernel
theorem dX8_code_3 : decode cX8_code 3 = .ok (.iload_n 1, 1) := by decide +kernel
theorem dX8_code_4 : decode cX8_code 4 = .ok (.iadd, 1) := by decide +kernel
theorem dX8_code_5 : decode cX8_code 5 = .ok (.bipush 100, 2) := by decide +kernel
theorem dX8_code_7 : decode cX8_code 7 = .ok (.imul, 1) := by decide +kernel
theorem dX8_code_8 : decode cX8_code 8 = .ok (.iload_n 2, 1) := by decide +kernel
theorem dX8_code_9 : decode cX8_code 9 = .ok (.iadd, 1) := by decide +kernel
theorem dX8_code_10 : decode cX8_code 10 = .ok (.ireturn, 1) := by decide +kernel
theorem dX8_subject_0 : decode cX8_subject 0 = .ok (.iload_n 0, 1) := by decide +kernel
theorem dX8_subject_1 : decode cX8_subject 1 = .ok (.sipush 300, 3) := by decide +kernel
theorem dX8_subject_4 : decode cX8_subject 4 = .ok (.idiv, 1) := by decide +kernel
theorem dX8_subject_5 : decode cX8_subject 5 = .ok (.ireturn, 1) := by decide +kernel
theorem dX8_sign_0 : decode cX8_sign 0 = .ok (.iload_n 0, 1) := by decide +kernel
theorem dX8_sign_1 : decode cX8_sign 1 = .ok (.bipush 100, 2) := by decide +kernel
theorem dX8_sign_3 : decode cX8_sign 3 = .ok (.idiv, 1) := by decide +kernel
theorem dX8_sign_4 : decode cX8_sign 4 = .ok (.iconst 3, 1) := by decide +kernel
theorem dX8_sign_5 : decode cX8_sign 5 = .ok (.irem, 1) := by decide +kernel
theorem dX8_sign_6 : decode cX8_sign 6 = .ok (.ireturn, 1) := by decide +kernel
theorem dX8_number_0 : decode cX8_number 0 = .ok (.iload_n 0, 1) := by decide +kernel
theorem dX8_number_1 : decode cX8_number 1 = .ok (.bipush 100, 2) := by decide +kernel
theorem dX8_number_3 : decode cX8_number 3 = .ok (.irem, 1) := by decide +kernel
theorem dX8_number_4 : decode cX8_number 4 = .ok (.ireturn, 1) := by decide +kernel
theorem dX8_holds_0 : decode cX8_holds 0 = .ok (.iload_n 1, 1) := by decide +kernel
theorem dX8_holds_1 : decode cX8_holds 1 = .ok (.iload_n 0, 1) := by decide +kernel
theorem dX8_holds_2 : decode cX8_holds 2 = .ok (.invokestatic 9, 3) := by decide +kernel
theorem dX8_holds_5 : decode cX8_holds 5 = .ok (.invokestatic 15, 3) := by decide +kernel
theorem dX8_holds_8 : decode cX8_holds 8 = .ok (.iconst 1, 1) := by decide +kernel
theorem dX8_holds_9 : decode cX8_holds 9 = .ok (.iadd, 1) := by decide +kernel
theorem dX8_holds_10 : decode cX8_holds 10 = .ok (.istore_n 2, 1) := by decide +kernel
theorem dX8_holds_11 : decode cX8_holds 11 = .ok (.iload_n 2, 1) := by decide +kernel
theorem dX8_holds_12 : decode cX8_holds 12 = .ok (.iload_n 0, 1) := by decide +kernel
theorem dX8_holds_13 : decode cX8_holds 13 = .ok (.invokestatic 21, 3) := by decide +kernel
theorem dX8_holds_16 : decode cX8_holds 16 = .ok (.if_icmp .ne 7, 3) := by decide +kernel
theorem dX8_holds_19 : decode cX8_holds 19 = .ok (.iconst 1, 1) := by decide +kernel
theorem dX8_holds_20 : decode cX8_holds 20 = .ok (.goto 4, 3) := by decide +kernel
theorem dX8_holds_23 : decode cX8_holds 23 = .ok (.iconst 0, 1) := by decide +kernel
theorem dX8_holds_24 : decode cX8_holds 24 = .ok (.ireturn, 1) := by decide +kernel
theorem dX8_minutes_0 : decode cX8_minutes 0 = .ok (.iload_n 0, 1) := by decide +kernel
theorem dX8_minutes_1 : decode cX8_minutes 1 = .ok (.invokestatic 9, 3) := by decide +kernel
theorem dX8_minutes_4 : decode cX8_minutes 4 = .ok (.istore_n 1, 1) := by decide +kernel
theorem dX8_minutes_5 : decode cX8_minutes 5 = .ok (.iload_n 1, 1) := by decide +kernel
theorem dX8_minutes_6 : decode cX8_minutes 6 = .ok (.bipush 40, 2) := by decide +kernel
theorem dX8_minutes_8 : decode cX8_minutes 8 = .ok (.if_icmp .lt 9, 3) := by decide +kernel
theorem dX8_minutes_11 : decode cX8_minutes 11 = .ok (.ldc2_w 24, 3) := by decide +kernel
theorem dX8_minutes_14 : decode cX8_minutes 14 = .ok (.goto 8, 3) := by decide +kernel
theorem dX8_minutes_17 : decode cX8_minutes 17 = .ok (.lconst 1, 1) := by decide +kernel
theorem dX8_minutes_18 : decode cX8_minutes 18 = .ok (.iload_n 1, 1) := by decide +kernel
theorem dX8_minutes_19 : decode cX8_minutes 19 = .ok (.lshl, 1) := by decide +kernel
theorem dX8_minutes_20 : decode cX8_minutes 20 = .ok (.lconst 1, 1) := by decide +kernel
theorem dX8_minutes_21 : decode cX8_minutes 21 = .ok (.lsub, 1) := by decide +kernel
theorem dX8_minutes_22 : decode cX8_minutes 22 = .ok (.lstore_n 2, 1) := by decide +kernel
theorem dX8_minutes_23 : decode cX8_minutes 23 = .ok (.iload_n 1, 1) := by decide +kernel
theorem dX8_minutes_24 : decode cX8_minutes 24 = .ok (.bipush 40, 2) := by decide +kernel
theorem dX8_minutes_26 : decode cX8_minutes 26 = .ok (.if_icmp .lt 7, 3) := by decide +kernel
theorem dX8_minutes_29 : decode cX8_minutes 29 = .ok (.lconst 0, 1) := by decide +kernel
theorem dX8_minutes_30 : decode cX8_minutes 30 = .ok (.goto 6, 3) := by decide +kernel
theorem dX8_minutes_33 : decode cX8_minutes 33 = .ok (.lconst 1, 1) := by decide +kernel
theorem dX8_minutes_34 : decode cX8_minutes 34 = .ok (.iload_n 1, 1) := by decide +kernel
theorem dX8_minutes_35 : decode cX8_minutes 35 = .ok (.lshl, 1) := by decide +kernel
theorem dX8_minutes_36 : decode cX8_minutes 36 = .ok (.lstore 4, 2) := by decide +kernel
theorem dX8_minutes_38 : decode cX8_minutes 38 = .ok (.iload_n 0, 1) := by decide +kernel
theorem dX8_minutes_39 : decode cX8_minutes 39 = .ok (.invokestatic 21, 3) := by decide +kernel
theorem dX8_minutes_42 : decode cX8_minutes 42 = .ok (.lookupswitch 31 #[(0, 26), (1, 28)], 26) := by decide +kernel
theorem dX8_minutes_68 : decode cX8_minutes 68 = .ok (.lload_n 2, 1) := by decide +kernel
theorem dX8_minutes_69 : decode cX8_minutes 69 = .ok (.lreturn, 1) := by decide +kernel
theorem dX8_minutes_70 : decode cX8_minutes 70 = .ok (.lload 4, 2) := by decide +kernel
theorem dX8_minutes_72 : decode cX8_minutes 72 = .ok (.lreturn, 1) := by decide +kernel
theorem dX8_minutes_73 : decode cX8_minutes 73 = .ok (.ldc2_w 24, 3) := by decide +kernel
theorem dX8_minutes_76 : decode cX8_minutes 76 = .ok (.lload_n 2, 1) := by decide +kernel
theorem dX8_minutes_77 : decode cX8_minutes 77 = .ok (.ldc2_w 26, 3) := by decide +kernel
theorem dX8_minutes_80 : decode cX8_minutes 80 = .ok (.lxor, 1) := by decide +kernel
theorem dX8_minutes_81 : decode cX8_minutes 81 = .ok (.land, 1) := by decide +kernel
theorem dX8_minutes_82 : decode cX8_minutes 82 = .ok (.lload 4, 2) := by decide +kernel
theorem dX8_minutes_84 : decode cX8_minutes 84 = .ok (.ldc2_w 26, 3) := by decide +kernel
theorem dX8_minutes_87 : decode cX8_minutes 87 = .ok (.lxor, 1) := by decide +kernel
theorem dX8_minutes_88 : decode cX8_minutes 88 = .ok (.land, 1) := by decide +kernel
theorem dX8_minutes_89 : decode cX8_minutes 89 = .ok (.lreturn, 1) := by decide +kernel
theorem dX9_init_0 : decode cX9_init 0 = .ok (.aload_n 0, 1) := by decide +kernel
theorem dX9_init_1 : decode cX9_init 1 = .ok (.invokespecial 5, 3) := by decide +kernel
theorem dX9_init_4 : decode cX9_init 4 = .ok (.aload_n 0, 1) := by decide +kernel
theorem dX9_init_5 : decode cX9_init 5 = .ok (.new 11, 3) := by decide +kernel
theorem dX9_init_8 : decode cX9_init 8 = .ok (.dup, 1) := by decide +kernel
theorem dX9_init_9 : decode cX9_init 9 = .ok (.invokespecial 13, 3) := by decide +kernel
theorem dX9_init_12 : decode cX9_init 12 = .ok (.putfield 14, 3) := by decide +kernel
theorem dX9_init_15 : decode cX9_init 15 = .ok (.aload_n 0, 1) := by decide +kernel
theorem dX9_init_16 : decode cX9_init 16 = .ok (.new 11, 3) := by decide +kernel
theorem dX9_init_19 : decode cX9_init 19 = .ok (.dup, 1) := by decide +kernel
theorem dX9_init_20 : decode cX9_init 20 = .ok (.invokespecial 13, 3) := by decide +kernel
theorem dX9_init_23 : decode cX9_init 23 = .ok (.putfield 18, 3) := by decide +kernel
theorem dX9_init_26 : decode cX9_init 26 = .ok (.aload_n 0, 1) := by decide +kernel
theorem dX9_init_27 : decode cX9_init 27 = .ok (.iconst 0, 1) := by decide +kernel
theorem dX9_init_28 : decode cX9_init 28 = .ok (.putfield 21, 3) := by decide +kernel
theorem dX9_init_31 : decode cX9_init 31 = .ok (.aload_n 0, 1) := by decide +kernel
theorem dX9_init_32 : decode cX9_init 32 = .ok (.new 25, 3) := by decide +kernel
theorem dX9_init_35 : decode cX9_init 35 = .ok (.dup, 1) := by decide +kernel
theorem dX9_init_36 : decode cX9_init 36 = .ok (.invokespecial 27, 3) := by decide +kernel
theorem dX9_init_39 : decode cX9_init 39 = .ok (.putfield 28, 3) := by decide +kernel
theorem dX9_init_42 : decode cX9_init 42 = .ok (.aload_n 0, 1) := by decide +kernel
theorem dX9_init_43 : decode cX9_init 43 = .ok (.new 32, 3) := by decide +kernel
theorem dX9_init_46 : decode cX9_init 46 = .ok (.dup, 1) := by decide +kernel
theorem dX9_init_47 : decode cX9_init 47 = .ok (.invokespecial 34, 3) := by decide +kernel
theorem dX9_init_50 : decode cX9_init 50 = .ok (.putfield 35, 3) := by decide +kernel
theorem dX9_init_53 : decode cX9_init 53 = .ok (.aload_n 0, 1) := by decide +kernel
theorem dX9_init_54 : decode cX9_init 54 = .ok (.new 39, 3) := by decide +kernel
theorem dX9_init_57 : decode cX9_init 57 = .ok (.dup, 1) := by decide +kernel
theorem dX9_init_58 : decode cX9_init 58 = .ok (.invokespecial 41, 3) := by decide +kernel
theorem dX9_init_61 : decode cX9_init 61 = .ok (.putfield 42, 3) := by decide +kernel
theorem dX9_init_64 : decode cX9_init 64 = .ok (.aload_n 0, 1) := by decide +kernel
theorem dX9_init_65 : decode cX9_init 65 = .ok (.iconst 0, 1) := by decide +kernel
theorem dX9_init_66 : decode cX9_init 66 = .ok (.putfield 46, 3) := by decide +kernel
theorem dX9_init_69 : decode cX9_init 69 = .ok (.aload_n 0, 1) := by decide +kernel
theorem dX9_init_70 : decode cX9_init 70 = .ok (.bipush 120, 2) := by decide +kernel
theorem dX9_init_72 : decode cX9_init 72 = .ok (.newarray .int, 2) := by decide +kernel
theorem dX9_init_74 : decode cX9_init 74 = .ok (.putfield 49, 3) := by decide +kernel
theorem dX9_init_77 : decode cX9_init 77 = .ok (.return_, 1) := by decide +kernel
theorem dX9_day_0 : decode cX9_day 0 = .ok (.iload_n 1, 1) := by decide +kernel
theorem dX9_day_1 : decode cX9_day 1 = .ok (.ifCond .lt 8, 3) := by decide +kernel
theorem dX9_day_4 : decode cX9_day 4 = .ok (.iload_n 1, 1) := by decide +kernel
theorem dX9_day_5 : decode cX9_day 5 = .ok (.iconst 3, 1) := by decide +kernel
theorem dX9_day_6 : decode cX9_day 6 = .ok (.if_icmp .lt 5, 3) := by decide +kernel
theorem dX9_day_9 : decode cX9_day 9 = .ok (.iconst (-1), 1) := by decide +kernel
theorem dX9_day_10 : decode cX9_day 10 = .ok (.ireturn, 1) := by decide +kernel
theorem dX9_day_11 : decode cX9_day 11 = .ok (.lload_n 2, 1) := by decide +kernel
theorem dX9_day_12 : decode cX9_day 12 = .ok (.lconst 0, 1) := by decide +kernel
theorem dX9_day_13 : decode cX9_day 13 = .ok (.lcmp, 1) := by decide +kernel
theorem dX9_day_14 : decode cX9_day 14 = .ok (.ifCond .lt 11, 3) := by decide +kernel
theorem dX9_day_17 : decode cX9_day 17 = .ok (.lload_n 2, 1) := by decide +kernel
theorem dX9_day_18 : decode cX9_day 18 = .ok (.ldc2_w 53, 3) := by decide +kernel
theorem dX9_day_21 : decode cX9_day 21 = .ok (.lcmp, 1) := by decide +kernel
theorem dX9_day_22 : decode cX9_day 22 = .ok (.ifCond .le 6, 3) := by decide +kernel
theorem dX9_day_25 : decode cX9_day 25 = .ok (.bipush (-2), 2) := by decide +kernel
theorem dX9_day_27 : decode cX9_day 27 = .ok (.ireturn, 1) := by decide +kernel
theorem dX9_day_28 : decode cX9_day 28 = .ok (.aload_n 0, 1) := by decide +kernel
theorem dX9_day_29 : decode cX9_day 29 = .ok (.getfield 14, 3) := by decide +kernel
theorem dX9_day_32 : decode cX9_day 32 = .ok (.getfield 55, 3) := by decide +kernel
theorem dX9_day_35 : decode cX9_day 35 = .ok (.iload_n 1, 1) := by decide +kernel
theorem dX9_day_36 : decode cX9_day 36 = .ok (.laload, 1) := by decide +kernel
theorem dX9_day_37 : decode cX9_day 37 = .ok (.invokestatic 59, 3) := by decide +kernel
theorem dX9_day_40 : decode cX9_day 40 = .ok (.istore 4, 2) := by decide +kernel
theorem dX9_day_42 : decode cX9_day 42 = .ok (.aload_n 0, 1) := by decide +kernel
theorem dX9_day_43 : decode cX9_day 43 = .ok (.getfield 14, 3) := by decide +kernel
theorem dX9_day_46 : decode cX9_day 46 = .ok (.getfield 55, 3) := by decide +kernel
theorem dX9_day_49 : decode cX9_day 49 = .ok (.iload_n 1, 1) := by decide +kernel
theorem dX9_day_50 : decode cX9_day 50 = .ok (.lload_n 2, 1) := by decide +kernel
theorem dX9_day_51 : decode cX9_day 51 = .ok (.lastore, 1) := by decide +kernel
theorem dX9_day_52 : decode cX9_day 52 = .ok (.aload_n 0, 1) := by decide +kernel
theorem dX9_day_53 : decode cX9_day 53 = .ok (.iconst 0, 1) := by decide +kernel
theorem dX9_day_54 : decode cX9_day 54 = .ok (.putfield 46, 3) := by decide +kernel
theorem dX9_day_57 : decode cX9_day 57 = .ok (.iload 4, 2) := by decide +kernel
theorem dX9_day_59 : decode cX9_day 59 = .ok (.ireturn, 1) := by decide +kernel
theorem dX9_feed_0 : decode cX9_feed 0 = .ok (.iload_n 3, 1) := by decide +kernel
theorem dX9_feed_1 : decode cX9_feed 1 = .ok (.iconst 1, 1) := by decide +kernel
theorem dX9_feed_2 : decode cX9_feed 2 = .ok (.if_icmp .lt 9, 3) := by decide +kernel
theorem dX9_feed_5 : decode cX9_feed 5 = .ok (.iload_n 3, 1) := by decide +kernel
theorem dX9_feed_6 : decode cX9_feed 6 = .ok (.bipush 8, 2) := by decide +kernel
theorem dX9_feed_8 : decode cX9_feed 8 = .ok (.if_icmp .le 6, 3) := by decide +kernel
theorem dX9_feed_11 : decode cX9_feed 11 = .ok (.bipush (-2), 2) := by decide +kernel
theorem dX9_feed_13 : decode cX9_feed 13 = .ok (.ireturn, 1) := by decide +kernel
theorem dX9_feed_14 : decode cX9_feed 14 = .ok (.aload_n 0, 1) := by decide +kernel
theorem dX9_feed_15 : decode cX9_feed 15 = .ok (.getfield 14, 3) := by decide +kernel
theorem dX9_feed_18 : decode cX9_feed 18 = .ok (.getfield 63, 3) := by decide +kernel
theorem dX9_feed_21 : decode cX9_feed 21 = .ok (.getfield 67, 3) := by decide +kernel
theorem dX9_feed_24 : decode cX9_feed 24 = .ok (.iload_n 3, 1) := by decide +kernel
theorem dX9_feed_25 : decode cX9_feed 25 = .ok (.iadd, 1) := by decide +kernel
theorem dX9_feed_26 : decode cX9_feed 26 = .ok (.bipush 120, 2) := by decide +kernel
theorem dX9_feed_28 : decode cX9_feed 28 = .ok (.if_icmp .le 6, 3) := by decide +kernel
theorem dX9_feed_31 : decode cX9_feed 31 = .ok (.bipush (-4), 2) := by decide +kernel
theorem dX9_feed_33 : decode cX9_feed 33 = .ok (.ireturn, 1) := by decide +kernel
theorem dX9_feed_34 : decode cX9_feed 34 = .ok (.iload_n 3, 1) := by decide +kernel
theorem dX9_feed_35 : decode cX9_feed 35 = .ok (.iconst 1, 1) := by decide +kernel
theorem dX9_feed_36 : decode cX9_feed 36 = .ok (.isub, 1) := by decide +kernel
theorem dX9_feed_37 : decode cX9_feed 37 = .ok (.istore 4, 2) := by decide +kernel
theorem dX9_feed_39 : decode cX9_feed 39 = .ok (.iload 4, 2) := by decide +kernel
theorem dX9_feed_41 : decode cX9_feed 41 = .ok (.ifCond .lt 31, 3) := by decide +kernel
theorem dX9_feed_44 : decode cX9_feed 44 = .ok (.aload_n 0, 1) := by decide +kernel
theorem dX9_feed_45 : decode cX9_feed 45 = .ok (.getfield 14, 3) := by decide +kernel
theorem dX9_feed_48 : decode cX9_feed 48 = .ok (.getfield 63, 3) := by decide +kernel
theorem dX9_feed_51 : decode cX9_feed 51 = .ok (.lload_n 1, 1) := by decide +kernel
theorem dX9_feed_52 : decode cX9_feed 52 = .ok (.bipush 8, 2) := by decide +kernel
theorem dX9_feed_54 : decode cX9_feed 54 = .ok (.iload 4, 2) := by decide +kernel
theorem dX9_feed_56 : decode cX9_feed 56 = .ok (.imul, 1) := by decide +kernel
theorem dX9_feed_57 : decode cX9_feed 57 = .ok (.lshr, 1) := by decide +kernel
theorem dX9_feed_58 : decode cX9_feed 58 = .ok (.l2i, 1) := by decide +kernel
theorem dX9_feed_59 : decode cX9_feed 59 = .ok (.sipush 255, 3) := by decide +kernel
theorem dX9_feed_62 : decode cX9_feed 62 = .ok (.iand, 1) := by decide +kernel
theorem dX9_feed_63 : decode cX9_feed 63 = .ok (.invokevirtual 73, 3) := by decide +kernel
theorem dX9_feed_66 : decode cX9_feed 66 = .ok (.iinc 4 (-1), 3) := by decide +kernel
theorem dX9_feed_69 : decode cX9_feed 69 = .ok (.goto (-30), 3) := by decide +kernel
theorem dX9_feed_72 : decode cX9_feed 72 = .ok (.aload_n 0, 1) := by decide +kernel
theorem dX9_feed_73 : decode cX9_feed 73 = .ok (.getfield 14, 3) := by decide +kernel
theorem dX9_feed_76 : decode cX9_feed 76 = .ok (.getfield 63, 3) := by decide +kernel
theorem dX9_feed_79 : decode cX9_feed 79 = .ok (.getfield 67, 3) := by decide +kernel
theorem dX9_feed_82 : decode cX9_feed 82 = .ok (.ireturn, 1) := by decide +kernel
theorem dX9_house_0 : decode cX9_house 0 = .ok (.aload_n 0, 1) := by decide +kernel
theorem dX9_house_1 : decode cX9_house 1 = .ok (.getfield 14, 3) := by decide +kernel
theorem dX9_house_4 : decode cX9_house 4 = .ok (.getfield 77, 3) := by decide +kernel
theorem dX9_house_7 : decode cX9_house 7 = .ok (.iconst 5, 1) := by decide +kernel
theorem dX9_house_8 : decode cX9_house 8 = .ok (.if_icmp .lt 6, 3) := by decide +kernel
theorem dX9_house_11 : decode cX9_house 11 = .ok (.bipush (-4), 2) := by decide +kernel
theorem dX9_house_13 : decode cX9_house 13 = .ok (.ireturn, 1) := by decide +kernel
theorem dX9_house_14 : decode cX9_house 14 = .ok (.aload_n 0, 1) := by decide +kernel
theorem dX9_house_15 : decode cX9_house 15 = .ok (.getfield 28, 3) := by decide +kernel
theorem dX9_house_18 : decode cX9_house 18 = .ok (.aload_n 0, 1) := by decide +kernel
theorem dX9_house_19 : decode cX9_house 19 = .ok (.getfield 14, 3) := by decide +kernel
theorem dX9_house_22 : decode cX9_house 22 = .ok (.getfield 63, 3) := by decide +kernel
theorem dX9_house_25 : decode cX9_house 25 = .ok (.invokevirtual 80, 3) := by decide +kernel
theorem dX9_house_28 : decode cX9_house 28 = .ok (.istore_n 1, 1) := by decide +kernel
theorem dX9_house_29 : decode cX9_house 29 = .ok (.aload_n 0, 1) := by decide +kernel
theorem dX9_house_30 : decode cX9_house 30 = .ok (.getfield 14, 3) := by decide +kernel
theorem dX9_house_33 : decode cX9_house 33 = .ok (.getfield 63, 3) := by decide +kernel
theorem dX9_house_36 : decode cX9_house 36 = .ok (.iconst 0, 1) := by decide +kernel
theorem dX9_house_37 : decode cX9_house 37 = .ok (.putfield 67, 3) := by decide +kernel
theorem dX9_house_40 : decode cX9_house 40 = .ok (.iload_n 1, 1) := by decide +kernel
theorem dX9_house_41 : decode cX9_house 41 = .ok (.ifCond .ne 14, 3) := by decide +kernel
theorem dX9_house_44 : decode cX9_house 44 = .ok (.bipush (-10), 2) := by decide +kernel
theorem dX9_house_46 : decode cX9_house 46 = .ok (.aload_n 0, 1) := by decide +kernel
theorem dX9_house_47 : decode cX9_house 47 = .ok (.getfield 28, 3) := by decide +kernel
theorem dX9_house_50 : decode cX9_house 50 = .ok (.getfield 84, 3) := by decide +kernel
theorem dX9_house_53 : decode cX9_house 53 = .ok (.isub, 1) := by decide +kernel
theorem dX9_house_54 : decode cX9_house 54 = .ok (.ireturn, 1) := by decide +kernel
theorem dX9_house_55 : decode cX9_house 55 = .ok (.aload_n 0, 1) := by decide +kernel
theorem dX9_house_56 : decode cX9_house 56 = .ok (.getfield 14, 3) := by decide +kernel
theorem dX9_house_59 : decode cX9_house 59 = .ok (.getfield 87, 3) := by decide +kernel
theorem dX9_house_62 : decode cX9_house 62 = .ok (.aload_n 0, 1) := by decide +kernel
theorem dX9_house_63 : decode cX9_house 63 = .ok (.getfield 28, 3) := by decide +kernel
theorem dX9_house_66 : decode cX9_house 66 = .ok (.getfield 91, 3) := by decide +kernel
theorem dX9_house_69 : decode cX9_house 69 = .ok (.invokevirtual 94, 3) := by decide +kernel
theorem dX9_house_72 : decode cX9_house 72 = .ok (.aload_n 0, 1) := by decide +kernel
theorem dX9_house_73 : decode cX9_house 73 = .ok (.iconst 0, 1) := by decide +kernel
theorem dX9_house_74 : decode cX9_house 74 = .ok (.putfield 46, 3) := by decide +kernel
theorem dX9_house_77 : decode cX9_house 77 = .ok (.aload_n 0, 1) := by decide +kernel
theorem dX9_house_78 : decode cX9_house 78 = .ok (.getfield 14, 3) := by decide +kernel
theorem dX9_house_81 : decode cX9_house 81 = .ok (.dup, 1) := by decide +kernel
theorem dX9_house_82 : decode cX9_house 82 = .ok (.getfield 77, 3) := by decide +kernel
theorem dX9_house_85 : decode cX9_house 85 = .ok (.dup_x1, 1) := by decide +kernel
theorem dX9_house_86 : decode cX9_house 86 = .ok (.iconst 1, 1) := by decide +kernel
theorem dX9_house_87 : decode cX9_house 87 = .ok (.iadd, 1) := by decide +kernel
theorem dX9_house_88 : decode cX9_house 88 = .ok (.putfield 77, 3) := by decide +kernel
theorem dX9_house_91 : decode cX9_house 91 = .ok (.ireturn, 1) := by decide +kernel
theorem dX9_told_0 : decode cX9_told 0 = .ok (.iload_n 1, 1) := by decide +kernel
theorem dX9_told_1 : decode cX9_told 1 = .ok (.ifCond .lt 8, 3) := by decide +kernel
theorem dX9_told_4 : decode cX9_told 4 = .ok (.iload_n 1, 1) := by decide +kernel
theorem dX9_told_5 : decode cX9_told 5 = .ok (.iconst 5, 1) := by decide +kernel
theorem dX9_told_6 : decode cX9_told 6 = .ok (.if_icmp .lt 5, 3) := by decide +kernel
theorem dX9_told_9 : decode cX9_told 9 = .ok (.iconst (-1), 1) := by decide +kernel
theorem dX9_told_10 : decode cX9_told 10 = .ok (.ireturn, 1) := by decide +kernel
theorem dX9_told_11 : decode cX9_told 11 = .ok (.aload_n 0, 1) := by decide +kernel
theorem dX9_told_12 : decode cX9_told 12 = .ok (.getfield 14, 3) := by decide +kernel
theorem dX9_told_15 : decode cX9_told 15 = .ok (.getfield 87, 3) := by decide +kernel
theorem dX9_told_18 : decode cX9_told 18 = .ok (.getfield 100, 3) := by decide +kernel
theorem dX9_told_21 : decode cX9_told 21 = .ok (.iload_n 1, 1) := by decide +kernel
theorem dX9_told_22 : decode cX9_told 22 = .ok (.iaload, 1) := by decide +kernel
theorem dX9_told_23 : decode cX9_told 23 = .ok (.ireturn, 1) := by decide +kernel
theorem dX9_warmth_0 : decode cX9_warmth 0 = .ok (.iload_n 1, 1) := by decide +kernel
theorem dX9_warmth_1 : decode cX9_warmth 1 = .ok (.invokestatic 103, 3) := by decide +kernel
theorem dX9_warmth_4 : decode cX9_warmth 4 = .ok (.ifCond .ne 5, 3) := by decide +kernel
theorem dX9_warmth_7 : decode cX9_warmth 7 = .ok (.iconst (-1), 1) := by decide +kernel
theorem dX9_warmth_8 : decode cX9_warmth 8 = .ok (.ireturn, 1) := by decide +kernel
theorem dX9_warmth_9 : decode cX9_warmth 9 = .ok (.aload_n 0, 1) := by decide +kernel
theorem dX9_warmth_10 : decode cX9_warmth 10 = .ok (.invokevirtual 107, 3) := by decide +kernel
theorem dX9_warmth_13 : decode cX9_warmth 13 = .ok (.aload_n 0, 1) := by decide +kernel
theorem dX9_warmth_14 : decode cX9_warmth 14 = .ok (.getfield 35, 3) := by decide +kernel
theorem dX9_warmth_17 : decode cX9_warmth 17 = .ok (.getfield 110, 3) := by decide +kernel
theorem dX9_warmth_20 : decode cX9_warmth 20 = .ok (.iload_n 1, 1) := by decide +kernel
theorem dX9_warmth_21 : decode cX9_warmth 21 = .ok (.iaload, 1) := by decide +kernel
theorem dX9_warmth_22 : decode cX9_warmth 22 = .ok (.ireturn, 1) := by decide +kernel
theorem dX9_noise_0 : decode cX9_noise 0 = .ok (.iload_n 1, 1) := by decide +kernel
theorem dX9_noise_1 : decode cX9_noise 1 = .ok (.invokestatic 113, 3) := by decide +kernel
theorem dX9_noise_4 : decode cX9_noise 4 = .ok (.ifCond .eq 10, 3) := by decide +kernel
theorem dX9_noise_7 : decode cX9_noise 7 = .ok (.iload_n 2, 1) := by decide +kernel
theorem dX9_noise_8 : decode cX9_noise 8 = .ok (.invokestatic 116, 3) := by decide +kernel
theorem dX9_noise_11 : decode cX9_noise 11 = .ok (.ifCond .ne 5, 3) := by decide +kernel
theorem dX9_noise_14 : decode cX9_noise 14 = .ok (.iconst (-1), 1) := by decide +kernel
theorem dX9_noise_15 : decode cX9_noise 15 = .ok (.ireturn, 1) := by decide +kernel
theorem dX9_noise_16 : decode cX9_noise 16 = .ok (.iload_n 3, 1) := by decide +kernel
theorem dX9_noise_17 : decode cX9_noise 17 = .ok (.ifCond .lt 22, 3) := by decide +kernel
theorem dX9_noise_20 : decode cX9_noise 20 = .ok (.iload_n 3, 1) := by decide +kernel
theorem dX9_noise_21 : decode cX9_noise 21 = .ok (.bipush 9, 2) := by decide +kernel
theorem dX9_noise_23 : decode cX9_noise 23 = .ok (.if_icmp .gt 16, 3) := by decide +kernel
theorem dX9_noise_26 : decode cX9_noise 26 = .ok (.iload 4, 2) := by decide +kernel
theorem dX9_noise_28 : decode cX9_noise 28 = .ok (.iconst 1, 1) := by decide +kernel
theorem dX9_noise_29 : decode cX9_noise 29 = .ok (.if_icmp .lt 10, 3) := by decide +kernel
theorem dX9_noise_32 : decode cX9_noise 32 = .ok (.iload 4, 2) := by decide +kernel
theorem dX9_noise_34 : decode cX9_noise 34 = .ok (.bipush 40, 2) := by decide +kernel
theorem dX9_noise_36 : decode cX9_noise 36 = .ok (.if_icmp .le 6, 3) := by decide +kernel
theorem dX9_noise_39 : decode cX9_noise 39 = .ok (.bipush (-2), 2) := by decide +kernel
theorem dX9_noise_41 : decode cX9_noise 41 = .ok (.ireturn, 1) := by decide +kernel
theorem dX9_noise_42 : decode cX9_noise 42 = .ok (.aload_n 0, 1) := by decide +kernel
theorem dX9_noise_43 : decode cX9_noise 43 = .ok (.getfield 14, 3) := by decide +kernel
theorem dX9_noise_46 : decode cX9_noise 46 = .ok (.getfield 119, 3) := by decide +kernel
theorem dX9_noise_49 : decode cX9_noise 49 = .ok (.getfield 123, 3) := by decide +kernel
theorem dX9_noise_52 : decode cX9_noise 52 = .ok (.bipush 10, 2) := by decide +kernel
theorem dX9_noise_54 : decode cX9_noise 54 = .ok (.if_icmp .lt 6, 3) := by decide +kernel
theorem dX9_noise_57 : decode cX9_noise 57 = .ok (.bipush (-4), 2) := by decide +kernel
theorem dX9_noise_59 : decode cX9_noise 59 = .ok (.ireturn, 1) := by decide +kernel
theorem dX9_noise_60 : decode cX9_noise 60 = .ok (.aload_n 0, 1) := by decide +kernel
theorem dX9_noise_61 : decode cX9_noise 61 = .ok (.iconst 0, 1) := by decide +kernel
end
section
-- decode rows, as printed (NAMES.whole)
theorem dX9_noise_62 : decode cX9_noise 62 = .ok (.putfield 46, 3) := by decide +kernel
theorem dX9_noise_65 : decode cX9_noise 65 = .ok (.aload_n 0, 1) := by decide +kernel
theorem dX9_noise_66 : decode cX9_noise 66 = .ok (.getfield 14, 3) := by decide +kernel
theorem dX9_noise_69 : decode cX9_noise 69 = .ok (.getfield 119, 3) := by decide +kernel
theorem dX9_noise_72 : decode cX9_noise 72 = .ok (.iload_n 1, 1) := by decide +kernel
theorem dX9_noise_73 : decode cX9_noise 73 = .ok (.iload_n 2, 1) := by decide +kernel
theorem dX9_noise_74 : decode cX9_noise 74 = .ok (.iload_n 3, 1) := by decide +kernel
theorem dX9_noise_75 : decode cX9_noise 75 = .ok (.iload 4, 2) := by decide +kernel
theorem dX9_noise_77 : decode cX9_noise 77 = .ok (.invokevirtual 128, 3) := by decide +kernel
theorem dX9_noise_80 : decode cX9_noise 80 = .ok (.ireturn, 1) := by decide +kernel
theorem dX9_of_0 : decode cX9_of 0 = .ok (.aload_n 0, 1) := by decide +kernel
theorem dX9_of_1 : decode cX9_of 1 = .ok (.getfield 14, 3) := by decide +kernel
theorem dX9_of_4 : decode cX9_of 4 = .ok (.getfield 119, 3) := by decide +kernel
theorem dX9_of_7 : decode cX9_of 7 = .ok (.iload_n 1, 1) := by decide +kernel
theorem dX9_of_8 : decode cX9_of 8 = .ok (.invokevirtual 131, 3) := by decide +kernel
theorem dX9_of_11 : decode cX9_of 11 = .ok (.ifCond .ne 5, 3) := by decide +kernel
theorem dX9_of_14 : decode cX9_of 14 = .ok (.iconst (-1), 1) := by decide +kernel
theorem dX9_of_15 : decode cX9_of 15 = .ok (.ireturn, 1) := by decide +kernel
theorem dX9_of_16 : decode cX9_of 16 = .ok (.iload_n 2, 1) := by decide +kernel
theorem dX9_of_17 : decode cX9_of 17 = .ok (.tableswitch 102 0 4 #[35, 48, 61, 74, 87], 35) := by decide +kernel
theorem dX9_of_52 : decode cX9_of 52 = .ok (.aload_n 0, 1) := by decide +kernel
theorem dX9_of_53 : decode cX9_of 53 = .ok (.getfield 14, 3) := by decide +kernel
theorem dX9_of_56 : decode cX9_of 56 = .ok (.getfield 119, 3) := by decide +kernel
theorem dX9_of_59 : decode cX9_of 59 = .ok (.getfield 134, 3) := by decide +kernel
theorem dX9_of_62 : decode cX9_of 62 = .ok (.iload_n 1, 1) := by decide +kernel
theorem dX9_of_63 : decode cX9_of 63 = .ok (.iaload, 1) := by decide +kernel
theorem dX9_of_64 : decode cX9_of 64 = .ok (.ireturn, 1) := by decide +kernel
theorem dX9_of_65 : decode cX9_of 65 = .ok (.aload_n 0, 1) := by decide +kernel
theorem dX9_of_66 : decode cX9_of 66 = .ok (.getfield 14, 3) := by decide +kernel
theorem dX9_of_69 : decode cX9_of 69 = .ok (.getfield 119, 3) := by decide +kernel
theorem dX9_of_72 : decode cX9_of 72 = .ok (.getfield 137, 3) := by decide +kernel
theorem dX9_of_75 : decode cX9_of 75 = .ok (.iload_n 1, 1) := by decide +kernel
theorem dX9_of_76 : decode cX9_of 76 = .ok (.iaload, 1) := by decide +kernel
theorem dX9_of_77 : decode cX9_of 77 = .ok (.ireturn, 1) := by decide +kernel
theorem dX9_of_78 : decode cX9_of 78 = .ok (.aload_n 0, 1) := by decide +kernel
theorem dX9_of_79 : decode cX9_of 79 = .ok (.getfield 14, 3) := by decide +kernel
theorem dX9_of_82 : decode cX9_of 82 = .ok (.getfield 119, 3) := by decide +kernel
theorem dX9_of_85 : decode cX9_of 85 = .ok (.getfield 140, 3) := by decide +kernel
theorem dX9_of_88 : decode cX9_of 88 = .ok (.iload_n 1, 1) := by decide +kernel
theorem dX9_of_89 : decode cX9_of 89 = .ok (.iaload, 1) := by decide +kernel
theorem dX9_of_90 : decode cX9_of 90 = .ok (.ireturn, 1) := by decide +kernel
theorem dX9_of_91 : decode cX9_of 91 = .ok (.aload_n 0, 1) := by decide +kernel
theorem dX9_of_92 : decode cX9_of 92 = .ok (.getfield 14, 3) := by decide +kernel
theorem dX9_of_95 : decode cX9_of 95 = .ok (.getfield 119, 3) := by decide +kernel
theorem dX9_of_98 : decode cX9_of 98 = .ok (.getfield 143, 3) := by decide +kernel
theorem dX9_of_101 : decode cX9_of 101 = .ok (.iload_n 1, 1) := by decide +kernel
theorem dX9_of_102 : decode cX9_of 102 = .ok (.iaload, 1) := by decide +kernel
theorem dX9_of_103 : decode cX9_of 103 = .ok (.ireturn, 1) := by decide +kernel
theorem dX9_of_104 : decode cX9_of 104 = .ok (.aload_n 0, 1) := by decide +kernel
theorem dX9_of_105 : decode cX9_of 105 = .ok (.getfield 14, 3) := by decide +kernel
theorem dX9_of_108 : decode cX9_of 108 = .ok (.getfield 119, 3) := by decide +kernel
theorem dX9_of_111 : decode cX9_of 111 = .ok (.getfield 146, 3) := by decide +kernel
theorem dX9_of_114 : decode cX9_of 114 = .ok (.iload_n 1, 1) := by decide +kernel
theorem dX9_of_115 : decode cX9_of 115 = .ok (.ishr, 1) := by decide +kernel
theorem dX9_of_116 : decode cX9_of 116 = .ok (.iconst 1, 1) := by decide +kernel
theorem dX9_of_117 : decode cX9_of 117 = .ok (.iand, 1) := by decide +kernel
theorem dX9_of_118 : decode cX9_of 118 = .ok (.ireturn, 1) := by decide +kernel
theorem dX9_of_119 : decode cX9_of 119 = .ok (.iconst (-1), 1) := by decide +kernel
theorem dX9_of_120 : decode cX9_of 120 = .ok (.ireturn, 1) := by decide +kernel
theorem dX9_still_0 : decode cX9_still 0 = .ok (.aload_n 0, 1) := by decide +kernel
theorem dX9_still_1 : decode cX9_still 1 = .ok (.getfield 14, 3) := by decide +kernel
theorem dX9_still_4 : decode cX9_still 4 = .ok (.getfield 119, 3) := by decide +kernel
theorem dX9_still_7 : decode cX9_still 7 = .ok (.iload_n 1, 1) := by decide +kernel
theorem dX9_still_8 : decode cX9_still 8 = .ok (.invokevirtual 131, 3) := by decide +kernel
theorem dX9_still_11 : decode cX9_still 11 = .ok (.ifCond .ne 5, 3) := by decide +kernel
theorem dX9_still_14 : decode cX9_still 14 = .ok (.iconst (-1), 1) := by decide +kernel
theorem dX9_still_15 : decode cX9_still 15 = .ok (.ireturn, 1) := by decide +kernel
theorem dX9_still_16 : decode cX9_still 16 = .ok (.aload_n 0, 1) := by decide +kernel
theorem dX9_still_17 : decode cX9_still 17 = .ok (.getfield 14, 3) := by decide +kernel
theorem dX9_still_20 : decode cX9_still 20 = .ok (.getfield 119, 3) := by decide +kernel
theorem dX9_still_23 : decode cX9_still 23 = .ok (.getfield 146, 3) := by decide +kernel
theorem dX9_still_26 : decode cX9_still 26 = .ok (.iload_n 1, 1) := by decide +kernel
theorem dX9_still_27 : decode cX9_still 27 = .ok (.ishr, 1) := by decide +kernel
theorem dX9_still_28 : decode cX9_still 28 = .ok (.iconst 1, 1) := by decide +kernel
theorem dX9_still_29 : decode cX9_still 29 = .ok (.iand, 1) := by decide +kernel
theorem dX9_still_30 : decode cX9_still 30 = .ok (.istore_n 3, 1) := by decide +kernel
theorem dX9_still_31 : decode cX9_still 31 = .ok (.iload_n 2, 1) := by decide +kernel
theorem dX9_still_32 : decode cX9_still 32 = .ok (.ifCond .eq 24, 3) := by decide +kernel
theorem dX9_still_35 : decode cX9_still 35 = .ok (.aload_n 0, 1) := by decide +kernel
theorem dX9_still_36 : decode cX9_still 36 = .ok (.getfield 14, 3) := by decide +kernel
theorem dX9_still_39 : decode cX9_still 39 = .ok (.getfield 119, 3) := by decide +kernel
theorem dX9_still_42 : decode cX9_still 42 = .ok (.dup, 1) := by decide +kernel
theorem dX9_still_43 : decode cX9_still 43 = .ok (.getfield 146, 3) := by decide +kernel
theorem dX9_still_46 : decode cX9_still 46 = .ok (.iconst 1, 1) := by decide +kernel
theorem dX9_still_47 : decode cX9_still 47 = .ok (.iload_n 1, 1) := by decide +kernel
theorem dX9_still_48 : decode cX9_still 48 = .ok (.ishl, 1) := by decide +kernel
theorem dX9_still_49 : decode cX9_still 49 = .ok (.ior, 1) := by decide +kernel
theorem dX9_still_50 : decode cX9_still 50 = .ok (.putfield 146, 3) := by decide +kernel
theorem dX9_still_53 : decode cX9_still 53 = .ok (.goto 23, 3) := by decide +kernel
theorem dX9_still_56 : decode cX9_still 56 = .ok (.aload_n 0, 1) := by decide +kernel
theorem dX9_still_57 : decode cX9_still 57 = .ok (.getfield 14, 3) := by decide +kernel
theorem dX9_still_60 : decode cX9_still 60 = .ok (.getfield 119, 3) := by decide +kernel
theorem dX9_still_63 : decode cX9_still 63 = .ok (.dup, 1) := by decide +kernel
theorem dX9_still_64 : decode cX9_still 64 = .ok (.getfield 146, 3) := by decide +kernel
theorem dX9_still_67 : decode cX9_still 67 = .ok (.iconst 1, 1) := by decide +kernel
theorem dX9_still_68 : decode cX9_still 68 = .ok (.iload_n 1, 1) := by decide +kernel
theorem dX9_still_69 : decode cX9_still 69 = .ok (.ishl, 1) := by decide +kernel
theorem dX9_still_70 : decode cX9_still 70 = .ok (.iconst (-1), 1) := by decide +kernel
theorem dX9_still_71 : decode cX9_still 71 = .ok (.ixor, 1) := by decide +kernel
theorem dX9_still_72 : decode cX9_still 72 = .ok (.iand, 1) := by decide +kernel
theorem dX9_still_73 : decode cX9_still 73 = .ok (.putfield 146, 3) := by decide +kernel
theorem dX9_still_76 : decode cX9_still 76 = .ok (.iload_n 3, 1) := by decide +kernel
theorem dX9_still_77 : decode cX9_still 77 = .ok (.ireturn, 1) := by decide +kernel
theorem dX9_knocks_0 : decode cX9_knocks 0 = .ok (.aload_n 0, 1) := by decide +kernel
theorem dX9_knocks_1 : decode cX9_knocks 1 = .ok (.getfield 14, 3) := by decide +kernel
theorem dX9_knocks_4 : decode cX9_knocks 4 = .ok (.getfield 119, 3) := by decide +kernel
theorem dX9_knocks_7 : decode cX9_knocks 7 = .ok (.iload_n 1, 1) := by decide +kernel
theorem dX9_knocks_8 : decode cX9_knocks 8 = .ok (.invokevirtual 131, 3) := by decide +kernel
theorem dX9_knocks_11 : decode cX9_knocks 11 = .ok (.ifCond .eq 10, 3) := by decide +kernel
theorem dX9_knocks_14 : decode cX9_knocks 14 = .ok (.iload_n 2, 1) := by decide +kernel
theorem dX9_knocks_15 : decode cX9_knocks 15 = .ok (.invokestatic 103, 3) := by decide +kernel
theorem dX9_knocks_18 : decode cX9_knocks 18 = .ok (.ifCond .ne 5, 3) := by decide +kernel
theorem dX9_knocks_21 : decode cX9_knocks 21 = .ok (.iconst (-1), 1) := by decide +kernel
theorem dX9_knocks_22 : decode cX9_knocks 22 = .ok (.ireturn, 1) := by decide +kernel
theorem dX9_knocks_23 : decode cX9_knocks 23 = .ok (.aload_n 0, 1) := by decide +kernel
theorem dX9_knocks_24 : decode cX9_knocks 24 = .ok (.invokevirtual 107, 3) := by decide +kernel
theorem dX9_knocks_27 : decode cX9_knocks 27 = .ok (.iload_n 3, 1) := by decide +kernel
theorem dX9_knocks_28 : decode cX9_knocks 28 = .ok (.tableswitch 76 0 2 #[28, 38, 48], 28) := by decide +kernel
theorem dX9_knocks_56 : decode cX9_knocks 56 = .ok (.aload_n 0, 1) := by decide +kernel
theorem dX9_knocks_57 : decode cX9_knocks 57 = .ok (.getfield 35, 3) := by decide +kernel
theorem dX9_knocks_60 : decode cX9_knocks 60 = .ok (.iload_n 1, 1) := by decide +kernel
theorem dX9_knocks_61 : decode cX9_knocks 61 = .ok (.iload_n 2, 1) := by decide +kernel
theorem dX9_knocks_62 : decode cX9_knocks 62 = .ok (.invokevirtual 149, 3) := by decide +kernel
theorem dX9_knocks_65 : decode cX9_knocks 65 = .ok (.ireturn, 1) := by decide +kernel
theorem dX9_knocks_66 : decode cX9_knocks 66 = .ok (.aload_n 0, 1) := by decide +kernel
theorem dX9_knocks_67 : decode cX9_knocks 67 = .ok (.getfield 35, 3) := by decide +kernel
theorem dX9_knocks_70 : decode cX9_knocks 70 = .ok (.iload_n 1, 1) := by decide +kernel
theorem dX9_knocks_71 : decode cX9_knocks 71 = .ok (.iload_n 2, 1) := by decide +kernel
theorem dX9_knocks_72 : decode cX9_knocks 72 = .ok (.invokevirtual 153, 3) := by decide +kernel
theorem dX9_knocks_75 : decode cX9_knocks 75 = .ok (.ireturn, 1) := by decide +kernel
theorem dX9_knocks_76 : decode cX9_knocks 76 = .ok (.aload_n 0, 1) := by decide +kernel
theorem dX9_knocks_77 : decode cX9_knocks 77 = .ok (.getfield 14, 3) := by decide +kernel
theorem dX9_knocks_80 : decode cX9_knocks 80 = .ok (.getfield 119, 3) := by decide +kernel
theorem dX9_knocks_83 : decode cX9_knocks 83 = .ok (.iload_n 1, 1) := by decide +kernel
theorem dX9_knocks_84 : decode cX9_knocks 84 = .ok (.invokevirtual 156, 3) := by decide +kernel
theorem dX9_knocks_87 : decode cX9_knocks 87 = .ok (.ifCond .eq 15, 3) := by decide +kernel
theorem dX9_knocks_90 : decode cX9_knocks 90 = .ok (.aload_n 0, 1) := by decide +kernel
theorem dX9_knocks_91 : decode cX9_knocks 91 = .ok (.getfield 35, 3) := by decide +kernel
theorem dX9_knocks_94 : decode cX9_knocks 94 = .ok (.iload_n 1, 1) := by decide +kernel
theorem dX9_knocks_95 : decode cX9_knocks 95 = .ok (.iload_n 2, 1) := by decide +kernel
theorem dX9_knocks_96 : decode cX9_knocks 96 = .ok (.invokevirtual 159, 3) := by decide +kernel
theorem dX9_knocks_99 : decode cX9_knocks 99 = .ok (.goto 4, 3) := by decide +kernel
theorem dX9_knocks_102 : decode cX9_knocks 102 = .ok (.iconst 0, 1) := by decide +kernel
theorem dX9_knocks_103 : decode cX9_knocks 103 = .ok (.ireturn, 1) := by decide +kernel
theorem dX9_knocks_104 : decode cX9_knocks 104 = .ok (.iconst (-1), 1) := by decide +kernel
theorem dX9_knocks_105 : decode cX9_knocks 105 = .ok (.ireturn, 1) := by decide +kernel
theorem dX9_loud_0 : decode cX9_loud 0 = .ok (.aload_n 0, 1) := by decide +kernel
theorem dX9_loud_1 : decode cX9_loud 1 = .ok (.getfield 14, 3) := by decide +kernel
theorem dX9_loud_4 : decode cX9_loud 4 = .ok (.getfield 119, 3) := by decide +kernel
theorem dX9_loud_7 : decode cX9_loud 7 = .ok (.iload_n 1, 1) := by decide +kernel
theorem dX9_loud_8 : decode cX9_loud 8 = .ok (.invokevirtual 131, 3) := by decide +kernel
theorem dX9_loud_11 : decode cX9_loud 11 = .ok (.ifCond .eq 17, 3) := by decide +kernel
theorem dX9_loud_14 : decode cX9_loud 14 = .ok (.iload_n 2, 1) := by decide +kernel
theorem dX9_loud_15 : decode cX9_loud 15 = .ok (.invokestatic 116, 3) := by decide +kernel
theorem dX9_loud_18 : decode cX9_loud 18 = .ok (.ifCond .eq 10, 3) := by decide +kernel
theorem dX9_loud_21 : decode cX9_loud 21 = .ok (.iload_n 3, 1) := by decide +kernel
theorem dX9_loud_22 : decode cX9_loud 22 = .ok (.invokestatic 103, 3) := by decide +kernel
theorem dX9_loud_25 : decode cX9_loud 25 = .ok (.ifCond .ne 5, 3) := by decide +kernel
theorem dX9_loud_28 : decode cX9_loud 28 = .ok (.iconst (-1), 1) := by decide +kernel
theorem dX9_loud_29 : decode cX9_loud 29 = .ok (.ireturn, 1) := by decide +kernel
theorem dX9_loud_30 : decode cX9_loud 30 = .ok (.aload_n 0, 1) := by decide +kernel
theorem dX9_loud_31 : decode cX9_loud 31 = .ok (.invokevirtual 107, 3) := by decide +kernel
theorem dX9_loud_34 : decode cX9_loud 34 = .ok (.aload_n 0, 1) := by decide +kernel
theorem dX9_loud_35 : decode cX9_loud 35 = .ok (.iload_n 1, 1) := by decide +kernel
theorem dX9_loud_36 : decode cX9_loud 36 = .ok (.aload_n 0, 1) := by decide +kernel
theorem dX9_loud_37 : decode cX9_loud 37 = .ok (.getfield 14, 3) := by decide +kernel
theorem dX9_loud_40 : decode cX9_loud 40 = .ok (.getfield 119, 3) := by decide +kernel
theorem dX9_loud_43 : decode cX9_loud 43 = .ok (.getfield 143, 3) := by decide +kernel
theorem dX9_loud_46 : decode cX9_loud 46 = .ok (.iload_n 1, 1) := by decide +kernel
theorem dX9_loud_47 : decode cX9_loud 47 = .ok (.iaload, 1) := by decide +kernel
theorem dX9_loud_48 : decode cX9_loud 48 = .ok (.iload_n 2, 1) := by decide +kernel
theorem dX9_loud_49 : decode cX9_loud 49 = .ok (.iload_n 3, 1) := by decide +kernel
theorem dX9_loud_50 : decode cX9_loud 50 = .ok (.invokevirtual 162, 3) := by decide +kernel
theorem dX9_loud_53 : decode cX9_loud 53 = .ok (.ireturn, 1) := by decide +kernel
theorem dX9_heard_0 : decode cX9_heard 0 = .ok (.iload_n 1, 1) := by decide +kernel
theorem dX9_heard_1 : decode cX9_heard 1 = .ok (.invokestatic 116, 3) := by decide +kernel
theorem dX9_heard_4 : decode cX9_heard 4 = .ok (.ifCond .eq 15, 3) := by decide +kernel
theorem dX9_heard_7 : decode cX9_heard 7 = .ok (.iload_n 2, 1) := by decide +kernel
theorem dX9_heard_8 : decode cX9_heard 8 = .ok (.iconst (-1), 1) := by decide +kernel
theorem dX9_heard_9 : decode cX9_heard 9 = .ok (.if_icmp .eq 12, 3) := by decide +kernel
theorem dX9_heard_12 : decode cX9_heard 12 = .ok (.iload_n 2, 1) := by decide +kernel
theorem dX9_heard_13 : decode cX9_heard 13 = .ok (.invokestatic 103, 3) := by decide +kernel
theorem dX9_heard_16 : decode cX9_heard 16 = .ok (.ifCond .ne 5, 3) := by decide +kernel
theorem dX9_heard_19 : decode cX9_heard 19 = .ok (.iconst (-1), 1) := by decide +kernel
theorem dX9_heard_20 : decode cX9_heard 20 = .ok (.ireturn, 1) := by decide +kernel
theorem dX9_heard_21 : decode cX9_heard 21 = .ok (.aload_n 0, 1) := by decide +kernel
theorem dX9_heard_22 : decode cX9_heard 22 = .ok (.invokevirtual 107, 3) := by decide +kernel
theorem dX9_heard_25 : decode cX9_heard 25 = .ok (.iload_n 2, 1) := by decide +kernel
theorem dX9_heard_26 : decode cX9_heard 26 = .ok (.iconst (-1), 1) := by decide +kernel
theorem dX9_heard_27 : decode cX9_heard 27 = .ok (.if_icmp .ne 11, 3) := by decide +kernel
theorem dX9_heard_30 : decode cX9_heard 30 = .ok (.aload_n 0, 1) := by decide +kernel
theorem dX9_heard_31 : decode cX9_heard 31 = .ok (.iload_n 1, 1) := by decide +kernel
theorem dX9_heard_32 : decode cX9_heard 32 = .ok (.invokevirtual 165, 3) := by decide +kernel
theorem dX9_heard_35 : decode cX9_heard 35 = .ok (.goto 9, 3) := by decide +kernel
theorem dX9_heard_38 : decode cX9_heard 38 = .ok (.aload_n 0, 1) := by decide +kernel
theorem dX9_heard_39 : decode cX9_heard 39 = .ok (.iload_n 1, 1) := by decide +kernel
theorem dX9_heard_40 : decode cX9_heard 40 = .ok (.iload_n 2, 1) := by decide +kernel
theorem dX9_heard_41 : decode cX9_heard 41 = .ok (.invokevirtual 169, 3) := by decide +kernel
theorem dX9_heard_44 : decode cX9_heard 44 = .ok (.ireturn, 1) := by decide +kernel
theorem dX9_seems_0 : decode cX9_seems 0 = .ok (.iload_n 1, 1) := by decide +kernel
theorem dX9_seems_1 : decode cX9_seems 1 = .ok (.invokestatic 103, 3) := by decide +kernel
theorem dX9_seems_4 : decode cX9_seems 4 = .ok (.ifCond .ne 5, 3) := by decide +kernel
theorem dX9_seems_7 : decode cX9_seems 7 = .ok (.iconst (-1), 1) := by decide +kernel
theorem dX9_seems_8 : decode cX9_seems 8 = .ok (.ireturn, 1) := by decide +kernel
theorem dX9_seems_9 : decode cX9_seems 9 = .ok (.aload_n 0, 1) := by decide +kernel
theorem dX9_seems_10 : decode cX9_seems 10 = .ok (.invokevirtual 107, 3) := by decide +kernel
theorem dX9_seems_13 : decode cX9_seems 13 = .ok (.bipush (-5), 2) := by decide +kernel
theorem dX9_seems_15 : decode cX9_seems 15 = .ok (.istore_n 2, 1) := by decide +kernel
theorem dX9_seems_16 : decode cX9_seems 16 = .ok (.iconst 0, 1) := by decide +kernel
theorem dX9_seems_17 : decode cX9_seems 17 = .ok (.istore_n 3, 1) := by decide +kernel
theorem dX9_seems_18 : decode cX9_seems 18 = .ok (.iconst 0, 1) := by decide +kernel
theorem dX9_seems_19 : decode cX9_seems 19 = .ok (.istore 4, 2) := by decide +kernel
theorem dX9_seems_21 : decode cX9_seems 21 = .ok (.iload 4, 2) := by decide +kernel
theorem dX9_seems_23 : decode cX9_seems 23 = .ok (.bipush 10, 2) := by decide +kernel
theorem dX9_seems_25 : decode cX9_seems 25 = .ok (.if_icmp .ge 30, 3) := by decide +kernel
theorem dX9_seems_28 : decode cX9_seems 28 = .ok (.aload_n 0, 1) := by decide +kernel
theorem dX9_seems_29 : decode cX9_seems 29 = .ok (.iload 4, 2) := by decide +kernel
theorem dX9_seems_31 : decode cX9_seems 31 = .ok (.iload_n 1, 1) := by decide +kernel
theorem dX9_seems_32 : decode cX9_seems 32 = .ok (.invokevirtual 172, 3) := by decide +kernel
theorem dX9_seems_35 : decode cX9_seems 35 = .ok (.istore 5, 2) := by decide +kernel
theorem dX9_seems_37 : decode cX9_seems 37 = .ok (.iload 5, 2) := by decide +kernel
theorem dX9_seems_39 : decode cX9_seems 39 = .ok (.iload_n 3, 1) := by decide +kernel
theorem dX9_seems_40 : decode cX9_seems 40 = .ok (.if_icmp .le 9, 3) := by decide +kernel
theorem dX9_seems_43 : decode cX9_seems 43 = .ok (.iload 5, 2) := by decide +kernel
theorem dX9_seems_45 : decode cX9_seems 45 = .ok (.istore_n 3, 1) := by decide +kernel
theorem dX9_seems_46 : decode cX9_seems 46 = .ok (.iload 4, 2) := by decide +kernel
theorem dX9_seems_48 : decode cX9_seems 48 = .ok (.istore_n 2, 1) := by decide +kernel
theorem dX9_seems_49 : decode cX9_seems 49 = .ok (.iinc 4 1, 3) := by decide +kernel
theorem dX9_seems_52 : decode cX9_seems 52 = .ok (.goto (-31), 3) := by decide +kernel
theorem dX9_seems_55 : decode cX9_seems 55 = .ok (.iload_n 2, 1) := by decide +kernel
theorem dX9_seems_56 : decode cX9_seems 56 = .ok (.ireturn, 1) := by decide +kernel
theorem dX9_note_0 : decode cX9_note 0 = .ok (.iload_n 1, 1) := by decide +kernel
theorem dX9_note_1 : decode cX9_note 1 = .ok (.invokestatic 116, 3) := by decide +kernel
theorem dX9_note_4 : decode cX9_note 4 = .ok (.ifCond .eq 10, 3) := by decide +kernel
theorem dX9_note_7 : decode cX9_note 7 = .ok (.iload_n 2, 1) := by decide +kernel
theorem dX9_note_8 : decode cX9_note 8 = .ok (.invokestatic 103, 3) := by decide +kernel
theorem dX9_note_11 : decode cX9_note 11 = .ok (.ifCond .ne 5, 3) := by decide +kernel
theorem dX9_note_14 : decode cX9_note 14 = .ok (.iconst (-1), 1) := by decide +kernel
theorem dX9_note_15 : decode cX9_note 15 = .ok (.ireturn, 1) := by decide +kernel
theorem dX9_note_16 : decode cX9_note 16 = .ok (.iload_n 3, 1) := by decide +kernel
theorem dX9_note_17 : decode cX9_note 17 = .ok (.ifCond .lt 9, 3) := by decide +kernel
theorem dX9_note_20 : decode cX9_note 20 = .ok (.iload_n 3, 1) := by decide +kernel
theorem dX9_note_21 : decode cX9_note 21 = .ok (.bipush 99, 2) := by decide +kernel
theorem dX9_note_23 : decode cX9_note 23 = .ok (.if_icmp .le 6, 3) := by decide +kernel
theorem dX9_note_26 : decode cX9_note 26 = .ok (.bipush (-2), 2) := by decide +kernel
theorem dX9_note_28 : decode cX9_note 28 = .ok (.ireturn, 1) := by decide +kernel
theorem dX9_note_29 : decode cX9_note 29 = .ok (.aload_n 0, 1) := by decide +kernel
theorem dX9_note_30 : decode cX9_note 30 = .ok (.getfield 14, 3) := by decide +kernel
theorem dX9_note_33 : decode cX9_note 33 = .ok (.getfield 175, 3) := by decide +kernel
theorem dX9_note_36 : decode cX9_note 36 = .ok (.getfield 179, 3) := by decide +kernel
theorem dX9_note_39 : decode cX9_note 39 = .ok (.bipush 12, 2) := by decide +kernel
theorem dX9_note_41 : decode cX9_note 41 = .ok (.if_icmp .lt 6, 3) := by decide +kernel
theorem dX9_note_44 : decode cX9_note 44 = .ok (.bipush (-4), 2) := by decide +kernel
theorem dX9_note_46 : decode cX9_note 46 = .ok (.ireturn, 1) := by decide +kernel
theorem dX9_note_47 : decode cX9_note 47 = .ok (.aload_n 0, 1) := by decide +kernel
theorem dX9_note_48 : decode cX9_note 48 = .ok (.getfield 14, 3) := by decide +kernel
theorem dX9_note_51 : decode cX9_note 51 = .ok (.getfield 175, 3) := by decide +kernel
theorem dX9_note_54 : decode cX9_note 54 = .ok (.iload_n 1, 1) := by decide +kernel
theorem dX9_note_55 : decode cX9_note 55 = .ok (.iload_n 2, 1) := by decide +kernel
theorem dX9_note_56 : decode cX9_note 56 = .ok (.iload_n 3, 1) := by decide +kernel
theorem dX9_note_57 : decode cX9_note 57 = .ok (.invokevirtual 182, 3) := by decide +kernel
theorem dX9_note_60 : decode cX9_note 60 = .ok (.ireturn, 1) := by decide +kernel
theorem dX9_clear_0 : decode cX9_clear 0 = .ok (.aload_n 0, 1) := by decide +kernel
theorem dX9_clear_1 : decode cX9_clear 1 = .ok (.getfield 14, 3) := by decide +kernel
theorem dX9_clear_4 : decode cX9_clear 4 = .ok (.getfield 175, 3) := by decide +kernel
theorem dX9_clear_7 : decode cX9_clear 7 = .ok (.getfield 179, 3) := by decide +kernel
theorem dX9_clear_10 : decode cX9_clear 10 = .ok (.istore_n 1, 1) := by decide +kernel
theorem dX9_clear_11 : decode cX9_clear 11 = .ok (.aload_n 0, 1) := by decide +kernel
theorem dX9_clear_12 : decode cX9_clear 12 = .ok (.getfield 14, 3) := by decide +kernel
theorem dX9_clear_15 : decode cX9_clear 15 = .ok (.getfield 175, 3) := by decide +kernel
theorem dX9_clear_18 : decode cX9_clear 18 = .ok (.iconst 0, 1) := by decide +kernel
theorem dX9_clear_19 : decode cX9_clear 19 = .ok (.putfield 179, 3) := by decide +kernel
theorem dX9_clear_22 : decode cX9_clear 22 = .ok (.iload_n 1, 1) := by decide +kernel
theorem dX9_clear_23 : decode cX9_clear 23 = .ok (.ireturn, 1) := by decide +kernel
theorem dX9_fits_0 : decode cX9_fits 0 = .ok (.aload_n 0, 1) := by decide +kernel
theorem dX9_fits_1 : decode cX9_fits 1 = .ok (.getfield 14, 3) := by decide +kernel
theorem dX9_fits_4 : decode cX9_fits 4 = .ok (.getfield 119, 3) := by decide +kernel
theorem dX9_fits_7 : decode cX9_fits 7 = .ok (.iload_n 1, 1) := by decide +kernel
theorem dX9_fits_8 : decode cX9_fits 8 = .ok (.invokevirtual 131, 3) := by decide +kernel
theorem dX9_fits_11 : decode cX9_fits 11 = .ok (.ifCond .ne 5, 3) := by decide +kernel
theorem dX9_fits_14 : decode cX9_fits 14 = .ok (.iconst (-1), 1) := by decide +kernel
theorem dX9_fits_15 : decode cX9_fits 15 = .ok (.ireturn, 1) := by decide +kernel
theorem dX9_fits_16 : decode cX9_fits 16 = .ok (.aload_n 0, 1) := by decide +kernel
theorem dX9_fits_17 : decode cX9_fits 17 = .ok (.invokevirtual 107, 3) := by decide +kernel
theorem dX9_fits_20 : decode cX9_fits 20 = .ok (.aload_n 0, 1) := by decide +kernel
theorem dX9_fits_21 : decode cX9_fits 21 = .ok (.iload_n 1, 1) := by decide +kernel
theorem dX9_fits_22 : decode cX9_fits 22 = .ok (.invokevirtual 185, 3) := by decide +kernel
theorem dX9_fits_25 : decode cX9_fits 25 = .ok (.ireturn, 1) := by decide +kernel
theorem dX9_odds_0 : decode cX9_odds 0 = .ok (.aload_n 0, 1) := by decide +kernel
theorem dX9_odds_1 : decode cX9_odds 1 = .ok (.getfield 14, 3) := by decide +kernel
theorem dX9_odds_4 : decode cX9_odds 4 = .ok (.getfield 119, 3) := by decide +kernel
theorem dX9_odds_7 : decode cX9_odds 7 = .ok (.iload_n 1, 1) := by decide +kernel
theorem dX9_odds_8 : decode cX9_odds 8 = .ok (.invokevirtual 131, 3) := by decide +kernel
theorem dX9_odds_11 : decode cX9_odds 11 = .ok (.ifCond .eq 12, 3) := by decide +kernel
theorem dX9_odds_14 : decode cX9_odds 14 = .ok (.iload_n 2, 1) := by decide +kernel
theorem dX9_odds_15 : decode cX9_odds 15 = .ok (.ifCond .lt 8, 3) := by decide +kernel
theorem dX9_odds_18 : decode cX9_odds 18 = .ok (.iload_n 2, 1) := by decide +kernel
theorem dX9_odds_19 : decode cX9_odds 19 = .ok (.iconst 1, 1) := by decide +kernel
theorem dX9_odds_20 : decode cX9_odds 20 = .ok (.if_icmp .le 5, 3) := by decide +kernel
theorem dX9_odds_23 : decode cX9_odds 23 = .ok (.iconst (-1), 1) := by decide +kernel
theorem dX9_odds_24 : decode cX9_odds 24 = .ok (.ireturn, 1) := by decide +kernel
theorem dX9_odds_25 : decode cX9_odds 25 = .ok (.aload_n 0, 1) := by decide +kernel
theorem dX9_odds_26 : decode cX9_odds 26 = .ok (.invokevirtual 107, 3) := by decide +kernel
theorem dX9_odds_29 : decode cX9_odds 29 = .ok (.iconst 0, 1) := by decide +kernel
theorem dX9_odds_30 : decode cX9_odds 30 = .ok (.istore_n 3, 1) := by decide +kernel
theorem dX9_odds_31 : decode cX9_odds 31 = .ok (.iconst 0, 1) := by decide +kernel
theorem dX9_odds_32 : decode cX9_odds 32 = .ok (.istore 4, 2) := by decide +kernel
theorem dX9_odds_34 : decode cX9_odds 34 = .ok (.iload 4, 2) := by decide +kernel
theorem dX9_odds_36 : decode cX9_odds 36 = .ok (.aload_n 0, 1) := by decide +kernel
theorem dX9_odds_37 : decode cX9_odds 37 = .ok (.getfield 14, 3) := by decide +kernel
theorem dX9_odds_40 : decode cX9_odds 40 = .ok (.getfield 119, 3) := by decide +kernel
theorem dX9_odds_43 : decode cX9_odds 43 = .ok (.getfield 123, 3) := by decide +kernel
theorem dX9_odds_46 : decode cX9_odds 46 = .ok (.if_icmp .ge 21, 3) := by decide +kernel
theorem dX9_odds_49 : decode cX9_odds 49 = .ok (.iload_n 3, 1) := by decide +kernel
theorem dX9_odds_50 : decode cX9_odds 50 = .ok (.aload_n 0, 1) := by decide +kernel
theorem dX9_odds_51 : decode cX9_odds 51 = .ok (.iload 4, 2) := by decide +kernel
theorem dX9_odds_53 : decode cX9_odds 53 = .ok (.invokevirtual 185, 3) := by decide +kernel
theorem dX9_odds_56 : decode cX9_odds 56 = .ok (.invokestatic 188, 3) := by decide +kernel
theorem dX9_odds_59 : decode cX9_odds 59 = .ok (.iadd, 1) := by decide +kernel
theorem dX9_odds_60 : decode cX9_odds 60 = .ok (.istore_n 3, 1) := by decide +kernel
theorem dX9_odds_61 : decode cX9_odds 61 = .ok (.iinc 4 1, 3) := by decide +kernel
theorem dX9_odds_64 : decode cX9_odds 64 = .ok (.goto (-30), 3) := by decide +kernel
theorem dX9_odds_67 : decode cX9_odds 67 = .ok (.iload_n 3, 1) := by decide +kernel
theorem dX9_odds_68 : decode cX9_odds 68 = .ok (.ifCond .ne 5, 3) := by decide +kernel
theorem dX9_odds_71 : decode cX9_odds 71 = .ok (.iload_n 2, 1) := by decide +kernel
theorem dX9_odds_72 : decode cX9_odds 72 = .ok (.ireturn, 1) := by decide +kernel
theorem dX9_odds_73 : decode cX9_odds 73 = .ok (.aload_n 0, 1) := by decide +kernel
theorem dX9_odds_74 : decode cX9_odds 74 = .ok (.iload_n 1, 1) := by decide +kernel
theorem dX9_odds_75 : decode cX9_odds 75 = .ok (.invokevirtual 185, 3) := by decide +kernel
theorem dX9_odds_78 : decode cX9_odds 78 = .ok (.invokestatic 188, 3) := by decide +kernel
theorem dX9_odds_81 : decode cX9_odds 81 = .ok (.istore 4, 2) := by decide +kernel
theorem dX9_odds_83 : decode cX9_odds 83 = .ok (.iload 4, 2) := by decide +kernel
theorem dX9_odds_85 : decode cX9_odds 85 = .ok (.iload_n 3, 1) := by decide +kernel
theorem dX9_odds_86 : decode cX9_odds 86 = .ok (.invokestatic 192, 3) := by decide +kernel
theorem dX9_odds_89 : decode cX9_odds 89 = .ok (.istore 5, 2) := by decide +kernel
theorem dX9_odds_91 : decode cX9_odds 91 = .ok (.iload 5, 2) := by decide +kernel
theorem dX9_odds_93 : decode cX9_odds 93 = .ok (.iconst 1, 1) := by decide +kernel
theorem dX9_odds_94 : decode cX9_odds 94 = .ok (.if_icmp .ge 5, 3) := by decide +kernel
theorem dX9_odds_97 : decode cX9_odds 97 = .ok (.iload_n 2, 1) := by decide +kernel
theorem dX9_odds_98 : decode cX9_odds 98 = .ok (.ireturn, 1) := by decide +kernel
theorem dX9_odds_99 : decode cX9_odds 99 = .ok (.iload_n 2, 1) := by decide +kernel
theorem dX9_odds_100 : decode cX9_odds 100 = .ok (.ifCond .ne 8, 3) := by decide +kernel
theorem dX9_odds_103 : decode cX9_odds 103 = .ok (.iload 4, 2) := by decide +kernel
theorem dX9_odds_105 : decode cX9_odds 105 = .ok (.goto 4, 3) := by decide +kernel
theorem dX9_odds_108 : decode cX9_odds 108 = .ok (.iload_n 3, 1) := by decide +kernel
theorem dX9_odds_109 : decode cX9_odds 109 = .ok (.iload 5, 2) := by decide +kernel
theorem dX9_odds_111 : decode cX9_odds 111 = .ok (.idiv, 1) := by decide +kernel
theorem dX9_odds_112 : decode cX9_odds 112 = .ok (.ireturn, 1) := by decide +kernel
theorem dX9_which_0 : decode cX9_which 0 = .ok (.aload_n 0, 1) := by decide +kernel
theorem dX9_which_1 : decode cX9_which 1 = .ok (.invokevirtual 107, 3) := by decide +kernel
theorem dX9_which_4 : decode cX9_which 4 = .ok (.iload_n 1, 1) := by decide +kernel
theorem dX9_which_5 : decode cX9_which 5 = .ok (.tableswitch 42 0 2 #[27, 32, 37], 27) := by decide +kernel
theorem dX9_which_32 : decode cX9_which 32 = .ok (.aload_n 0, 1) := by decide +kernel
theorem dX9_which_33 : decode cX9_which 33 = .ok (.invokevirtual 195, 3) := by decide +kernel
theorem dX9_which_36 : decode cX9_which 36 = .ok (.ireturn, 1) := by decide +kernel
theorem dX9_which_37 : decode cX9_which 37 = .ok (.aload_n 0, 1) := by decide +kernel
theorem dX9_which_38 : decode cX9_which 38 = .ok (.invokevirtual 199, 3) := by decide +kernel
theorem dX9_which_41 : decode cX9_which 41 = .ok (.ireturn, 1) := by decide +kernel
theorem dX9_which_42 : decode cX9_which 42 = .ok (.aload_n 0, 1) := by decide +kernel
theorem dX9_which_43 : decode cX9_which 43 = .ok (.invokevirtual 202, 3) := by decide +kernel
theorem dX9_which_46 : decode cX9_which 46 = .ok (.ireturn, 1) := by decide +kernel
theorem dX9_which_47 : decode cX9_which 47 = .ok (.iconst (-1), 1) := by decide +kernel
theorem dX9_which_48 : decode cX9_which 48 = .ok (.ireturn, 1) := by decide +kernel
theorem dX9_next_0 : decode cX9_next 0 = .ok (.aload_n 0, 1) := by decide +kernel
theorem dX9_next_1 : decode cX9_next 1 = .ok (.getfield 14, 3) := by decide +kernel
theorem dX9_next_4 : decode cX9_next 4 = .ok (.getfield 119, 3) := by decide +kernel
theorem dX9_next_7 : decode cX9_next 7 = .ok (.getfield 123, 3) := by decide +kernel
theorem dX9_next_10 : decode cX9_next 10 = .ok (.ifCond .ne 6, 3) := by decide +kernel
theorem dX9_next_13 : decode cX9_next 13 = .ok (.bipush (-5), 2) := by decide +kernel
theorem dX9_next_15 : decode cX9_next 15 = .ok (.ireturn, 1) := by decide +kernel
theorem dX9_next_16 : decode cX9_next 16 = .ok (.aload_n 0, 1) := by decide +kernel
theorem dX9_next_17 : decode cX9_next 17 = .ok (.invokevirtual 107, 3) := by decide +kernel
theorem dX9_next_20 : decode cX9_next 20 = .ok (.bipush (-5), 2) := by decide +kernel
theorem dX9_next_22 : decode cX9_next 22 = .ok (.istore_n 1, 1) := by decide +kernel
theorem dX9_next_23 : decode cX9_next 23 = .ok (.bipush 11, 2) := by decide +kernel
theorem dX9_next_25 : decode cX9_next 25 = .ok (.istore_n 2, 1) := by decide +kernel
theorem dX9_next_26 : decode cX9_next 26 = .ok (.iconst 0, 1) := by decide +kernel
theorem dX9_next_27 : decode cX9_next 27 = .ok (.istore_n 3, 1) := by decide +kernel
theorem dX9_next_28 : decode cX9_next 28 = .ok (.iload_n 3, 1) := by decide +kernel
theorem dX9_next_29 : decode cX9_next 29 = .ok (.bipush 10, 2) := by decide +kernel
theorem dX9_next_31 : decode cX9_next 31 = .ok (.if_icmp .ge 51, 3) := by decide +kernel
theorem dX9_next_34 : decode cX9_next 34 = .ok (.iconst 0, 1) := by decide +kernel
theorem dX9_next_35 : decode cX9_next 35 = .ok (.istore 4, 2) := by decide +kernel
theorem dX9_next_37 : decode cX9_next 37 = .ok (.iload 4, 2) := by decide +kernel
theorem dX9_next_39 : decode cX9_next 39 = .ok (.bipush 40, 2) := by decide +kernel
theorem dX9_next_41 : decode cX9_next 41 = .ok (.if_icmp .ge 35, 3) := by decide +kernel
theorem dX9_next_44 : decode cX9_next 44 = .ok (.aload_n 0, 1) := by decide +kernel
theorem dX9_next_45 : decode cX9_next 45 = .ok (.iload_n 3, 1) := by decide +kernel
theorem dX9_next_46 : decode cX9_next 46 = .ok (.iload 4, 2) := by decide +kernel
theorem dX9_next_48 : decode cX9_next 48 = .ok (.invokevirtual 205, 3) := by decide +kernel
theorem dX9_next_51 : decode cX9_next 51 = .ok (.istore 5, 2) := by decide +kernel
theorem dX9_next_53 : decode cX9_next 53 = .ok (.iload 5, 2) := by decide +kernel
theorem dX9_next_55 : decode cX9_next 55 = .ok (.iload_n 2, 1) := by decide +kernel
theorem dX9_next_56 : decode cX9_next 56 = .ok (.if_icmp .ge 14, 3) := by decide +kernel
theorem dX9_next_59 : decode cX9_next 59 = .ok (.iload 5, 2) := by decide +kernel
theorem dX9_next_61 : decode cX9_next 61 = .ok (.istore_n 2, 1) := by decide +kernel
theorem dX9_next_62 : decode cX9_next 62 = .ok (.bipush 100, 2) := by decide +kernel
theorem dX9_next_64 : decode cX9_next 64 = .ok (.iload_n 3, 1) := by decide +kernel
theorem dX9_next_65 : decode cX9_next 65 = .ok (.imul, 1) := by decide +kernel
theorem dX9_next_66 : decode cX9_next 66 = .ok (.iload 4, 2) := by decide +kernel
theorem dX9_next_68 : decode cX9_next 68 = .ok (.iadd, 1) := by decide +kernel
theorem dX9_next_69 : decode cX9_next 69 = .ok (.istore_n 1, 1) := by decide +kernel
theorem dX9_next_70 : decode cX9_next 70 = .ok (.iinc 4 1, 3) := by decide +kernel
theorem dX9_next_73 : decode cX9_next 73 = .ok (.goto (-36), 3) := by decide +kernel
theorem dX9_next_76 : decode cX9_next 76 = .ok (.iinc 3 1, 3) := by decide +kernel
theorem dX9_next_79 : decode cX9_next 79 = .ok (.goto (-51), 3) := by decide +kernel
theorem dX9_next_82 : decode cX9_next 82 = .ok (.iload_n 1, 1) := by decide +kernel
theorem dX9_next_83 : decode cX9_next 83 = .ok (.ireturn, 1) := by decide +kernel
theorem dX9_least_0 : decode cX9_least 0 = .ok (.iload_n 1, 1) := by decide +kernel
theorem dX9_least_1 : decode cX9_least 1 = .ok (.invokestatic 116, 3) := by decide +kernel
theorem dX9_least_4 : decode cX9_least 4 = .ok (.ifCond .ne 5, 3) := by decide +kernel
theorem dX9_least_7 : decode cX9_least 7 = .ok (.iconst (-1), 1) := by decide +kernel
theorem dX9_least_8 : decode cX9_least 8 = .ok (.ireturn, 1) := by decide +kernel
theorem dX9_least_9 : decode cX9_least 9 = .ok (.iload_n 2, 1) := by decide +kernel
theorem dX9_least_10 : decode cX9_least 10 = .ok (.ifCond .lt 9, 3) := by decide +kernel
theorem dX9_least_13 : decode cX9_least 13 = .ok (.iload_n 2, 1) := by decide +kernel
theorem dX9_least_14 : decode cX9_least 14 = .ok (.bipush 99, 2) := by decide +kernel
theorem dX9_least_16 : decode cX9_least 16 = .ok (.if_icmp .le 6, 3) := by decide +kernel
theorem dX9_least_19 : decode cX9_least 19 = .ok (.bipush (-2), 2) := by decide +kernel
theorem dX9_least_21 : decode cX9_least 21 = .ok (.ireturn, 1) := by decide +kernel
theorem dX9_least_22 : decode cX9_least 22 = .ok (.aload_n 0, 1) := by decide +kernel
theorem dX9_least_23 : decode cX9_least 23 = .ok (.invokevirtual 107, 3) := by decide +kernel
theorem dX9_least_26 : decode cX9_least 26 = .ok (.aload_n 0, 1) := by decide +kernel
theorem dX9_least_27 : decode cX9_least 27 = .ok (.getfield 14, 3) := by decide +kernel
theorem dX9_least_30 : decode cX9_least 30 = .ok (.getfield 119, 3) := by decide +kernel
theorem dX9_least_33 : decode cX9_least 33 = .ok (.invokevirtual 208, 3) := by decide +kernel
theorem dX9_least_36 : decode cX9_least 36 = .ok (.istore_n 3, 1) := by decide +kernel
theorem dX9_least_37 : decode cX9_least 37 = .ok (.iconst 0, 1) := by decide +kernel
theorem dX9_least_38 : decode cX9_least 38 = .ok (.istore 4, 2) := by decide +kernel
theorem dX9_least_40 : decode cX9_least 40 = .ok (.iload 4, 2) := by decide +kernel
theorem dX9_least_42 : decode cX9_least 42 = .ok (.aload_n 0, 1) := by decide +kernel
theorem dX9_least_43 : decode cX9_least 43 = .ok (.getfield 14, 3) := by decide +kernel
theorem dX9_least_46 : decode cX9_least 46 = .ok (.getfield 119, 3) := by decide +kernel
theorem dX9_least_49 : decode cX9_least 49 = .ok (.getfield 123, 3) := by decide +kernel
theorem dX9_least_52 : decode cX9_least 52 = .ok (.if_icmp .ge 23, 3) := by decide +kernel
theorem dX9_least_55 : decode cX9_least 55 = .ok (.aload_n 0, 1) := by decide +kernel
theorem dX9_least_56 : decode cX9_least 56 = .ok (.getfield 49, 3) := by decide +kernel
theorem dX9_least_59 : decode cX9_least 59 = .ok (.iload 4, 2) := by decide +kernel
theorem dX9_least_61 : decode cX9_least 61 = .ok (.aload_n 0, 1) := by decide +kernel
theorem dX9_least_62 : decode cX9_least 62 = .ok (.iload 4, 2) := by decide +kernel
theorem dX9_least_64 : decode cX9_least 64 = .ok (.iload_n 1, 1) := by decide +kernel
theorem dX9_least_65 : decode cX9_least 65 = .ok (.invokevirtual 211, 3) := by decide +kernel
theorem dX9_least_68 : decode cX9_least 68 = .ok (.iastore, 1) := by decide +kernel
theorem dX9_least_69 : decode cX9_least 69 = .ok (.iinc 4 1, 3) := by decide +kernel
theorem dX9_least_72 : decode cX9_least 72 = .ok (.goto (-32), 3) := by decide +kernel
theorem dX9_least_75 : decode cX9_least 75 = .ok (.iload_n 3, 1) := by decide +kernel
theorem dX9_least_76 : decode cX9_least 76 = .ok (.istore 4, 2) := by decide +kernel
theorem dX9_least_78 : decode cX9_least 78 = .ok (.iconst 0, 1) := by decide +kernel
theorem dX9_least_79 : decode cX9_least 79 = .ok (.istore 5, 2) := by decide +kernel
theorem dX9_least_81 : decode cX9_least 81 = .ok (.iload 5, 2) := by decide +kernel
theorem dX9_least_83 : decode cX9_least 83 = .ok (.iconst 1, 1) := by decide +kernel
theorem dX9_least_84 : decode cX9_least 84 = .ok (.aload_n 0, 1) := by decide +kernel
theorem dX9_least_85 : decode cX9_least 85 = .ok (.getfield 14, 3) := by decide +kernel
theorem dX9_least_88 : decode cX9_least 88 = .ok (.getfield 119, 3) := by decide +kernel
theorem dX9_least_91 : decode cX9_least 91 = .ok (.getfield 123, 3) := by decide +kernel
theorem dX9_least_94 : decode cX9_least 94 = .ok (.ishl, 1) := by decide +kernel
theorem dX9_least_95 : decode cX9_least 95 = .ok (.if_icmp .ge 62, 3) := by decide +kernel
theorem dX9_least_98 : decode cX9_least 98 = .ok (.iload 5, 2) := by decide +kernel
theorem dX9_least_100 : decode cX9_least 100 = .ok (.iload_n 3, 1) := by decide +kernel
theorem dX9_least_101 : decode cX9_least 101 = .ok (.iconst (-1), 1) := by decide +kernel
theorem dX9_least_102 : decode cX9_least 102 = .ok (.ixor, 1) := by decide +kernel
theorem dX9_least_103 : decode cX9_least 103 = .ok (.iand, 1) := by decide +kernel
theorem dX9_least_104 : decode cX9_least 104 = .ok (.ifCond .ne 20, 3) := by decide +kernel
theorem dX9_least_107 : decode cX9_least 107 = .ok (.iload 5, 2) := by decide +kernel
theorem dX9_least_109 : decode cX9_least 109 = .ok (.invokestatic 188, 3) := by decide +kernel
theorem dX9_least_112 : decode cX9_least 112 = .ok (.iload 4, 2) := by decide +kernel
theorem dX9_least_114 : decode cX9_least 114 = .ok (.invokestatic 188, 3) := by decide +kernel
theorem dX9_least_117 : decode cX9_least 117 = .ok (.if_icmp .ge 7, 3) := by decide +kernel
theorem dX9_least_120 : decode cX9_least 120 = .ok (.iconst 1, 1) := by decide +kernel
theorem dX9_least_121 : decode cX9_least 121 = .ok (.goto 4, 3) := by decide +kernel
theorem dX9_least_124 : decode cX9_least 124 = .ok (.iconst 0, 1) := by decide +kernel
theorem dX9_least_125 : decode cX9_least 125 = .ok (.istore 6, 2) := by decide +kernel
theorem dX9_least_127 : decode cX9_least 127 = .ok (.iload 6, 2) := by decide +kernel
theorem dX9_least_129 : decode cX9_least 129 = .ok (.ifCond .eq 22, 3) := by decide +kernel
theorem dX9_least_132 : decode cX9_least 132 = .ok (.aload_n 0, 1) := by decide +kernel
theorem dX9_least_133 : decode cX9_least 133 = .ok (.iconst 0, 1) := by decide +kernel
theorem dX9_least_134 : decode cX9_least 134 = .ok (.iload_n 3, 1) := by decide +kernel
theorem dX9_least_135 : decode cX9_least 135 = .ok (.iload 5, 2) := by decide +kernel
theorem dX9_least_137 : decode cX9_least 137 = .ok (.iconst (-1), 1) := by decide +kernel
theorem dX9_least_138 : decode cX9_least 138 = .ok (.ixor, 1) := by decide +kernel
theorem dX9_least_139 : decode cX9_least 139 = .ok (.iand, 1) := by decide +kernel
theorem dX9_least_140 : decode cX9_least 140 = .ok (.invokevirtual 214, 3) := by decide +kernel
theorem dX9_least_143 : decode cX9_least 143 = .ok (.iload_n 2, 1) := by decide +kernel
theorem dX9_least_144 : decode cX9_least 144 = .ok (.if_icmp .gt 7, 3) := by decide +kernel
theorem dX9_least_147 : decode cX9_least 147 = .ok (.iload 5, 2) := by decide +kernel
theorem dX9_least_149 : decode cX9_least 149 = .ok (.istore 4, 2) := by decide +kernel
theorem dX9_least_151 : decode cX9_least 151 = .ok (.iinc 5 1, 3) := by decide +kernel
theorem dX9_least_154 : decode cX9_least 154 = .ok (.goto (-73), 3) := by decide +kernel
theorem dX9_least_157 : decode cX9_least 157 = .ok (.iload 4, 2) := by decide +kernel
theorem dX9_least_159 : decode cX9_least 159 = .ok (.ireturn, 1) := by decide +kernel
theorem dX9_eased_0 : decode cX9_eased 0 = .ok (.iload_n 1, 1) := by decide +kernel
theorem dX9_eased_1 : decode cX9_eased 1 = .ok (.invokestatic 116, 3) := by decide +kernel
theorem dX9_eased_4 : decode cX9_eased 4 = .ok (.ifCond .ne 5, 3) := by decide +kernel
theorem dX9_eased_7 : decode cX9_eased 7 = .ok (.iconst (-1), 1) := by decide +kernel
theorem dX9_eased_8 : decode cX9_eased 8 = .ok (.ireturn, 1) := by decide +kernel
theorem dX9_eased_9 : decode cX9_eased 9 = .ok (.iload_n 2, 1) := by decide +kernel
theorem dX9_eased_10 : decode cX9_eased 10 = .ok (.ifCond .lt 9, 3) := by decide +kernel
theorem dX9_eased_13 : decode cX9_eased 13 = .ok (.iload_n 2, 1) := by decide +kernel
theorem dX9_eased_14 : decode cX9_eased 14 = .ok (.bipush 40, 2) := by decide +kernel
theorem dX9_eased_16 : decode cX9_eased 16 = .ok (.if_icmp .le 6, 3) := by decide +kernel
theorem dX9_eased_19 : decode cX9_eased 19 = .ok (.bipush (-2), 2) := by decide +kernel
theorem dX9_eased_21 : decode cX9_eased 21 = .ok (.ireturn, 1) := by decide +kernel
theorem dX9_eased_22 : decode cX9_eased 22 = .ok (.aload_n 0, 1) := by decide +kernel
theorem dX9_eased_23 : decode cX9_eased 23 = .ok (.invokevirtual 107, 3) := by decide +kernel
theorem dX9_eased_26 : decode cX9_eased 26 = .ok (.iconst 0, 1) := by decide +kernel
theorem dX9_eased_27 : decode cX9_eased 27 = .ok (.istore_n 3, 1) := by decide +kernel
theorem dX9_eased_28 : decode cX9_eased 28 = .ok (.iconst 0, 1) := by decide +kernel
theorem dX9_eased_29 : decode cX9_eased 29 = .ok (.istore 4, 2) := by decide +kernel
theorem dX9_eased_31 : decode cX9_eased 31 = .ok (.iload 4, 2) := by decide +kernel
theorem dX9_eased_33 : decode cX9_eased 33 = .ok (.aload_n 0, 1) := by decide +kernel
theorem dX9_eased_34 : decode cX9_eased 34 = .ok (.getfield 14, 3) := by decide +kernel
theorem dX9_eased_37 : decode cX9_eased 37 = .ok (.getfield 119, 3) := by decide +kernel
theorem dX9_eased_40 : decode cX9_eased 40 = .ok (.getfield 123, 3) := by decide +kernel
theorem dX9_eased_43 : decode cX9_eased 43 = .ok (.if_icmp .ge 108, 3) := by decide +kernel
theorem dX9_eased_46 : decode cX9_eased 46 = .ok (.aload_n 0, 1) := by decide +kernel
theorem dX9_eased_47 : decode cX9_eased 47 = .ok (.getfield 14, 3) := by decide +kernel
theorem dX9_eased_50 : decode cX9_eased 50 = .ok (.getfield 119, 3) := by decide +kernel
theorem dX9_eased_53 : decode cX9_eased 53 = .ok (.iload 4, 2) := by decide +kernel
theorem dX9_eased_55 : decode cX9_eased 55 = .ok (.invokevirtual 156, 3) := by decide +kernel
theorem dX9_eased_58 : decode cX9_eased 58 = .ok (.ifCond .eq 87, 3) := by decide +kernel
theorem dX9_eased_61 : decode cX9_eased 61 = .ok (.aload_n 0, 1) := by decide +kernel
theorem dX9_eased_62 : decode cX9_eased 62 = .ok (.getfield 14, 3) := by decide +kernel
theorem dX9_eased_65 : decode cX9_eased 65 = .ok (.getfield 119, 3) := by decide +kernel
theorem dX9_eased_68 : decode cX9_eased 68 = .ok (.getfield 134, 3) := by decide +kernel
theorem dX9_eased_71 : decode cX9_eased 71 = .ok (.iload 4, 2) := by decide +kernel
theorem dX9_eased_73 : decode cX9_eased 73 = .ok (.iaload, 1) := by decide +kernel
theorem dX9_eased_74 : decode cX9_eased 74 = .ok (.iconst 2, 1) := by decide +kernel
theorem dX9_eased_75 : decode cX9_eased 75 = .ok (.invokestatic 217, 3) := by decide +kernel
theorem dX9_eased_78 : decode cX9_eased 78 = .ok (.ifCond .ne 6, 3) := by decide +kernel
theorem dX9_eased_81 : decode cX9_eased 81 = .ok (.goto 64, 3) := by decide +kernel
theorem dX9_eased_84 : decode cX9_eased 84 = .ok (.iconst 1, 1) := by decide +kernel
theorem dX9_eased_85 : decode cX9_eased 85 = .ok (.aload_n 0, 1) := by decide +kernel
theorem dX9_eased_86 : decode cX9_eased 86 = .ok (.getfield 14, 3) := by decide +kernel
theorem dX9_eased_89 : decode cX9_eased 89 = .ok (.getfield 119, 3) := by decide +kernel
theorem dX9_eased_92 : decode cX9_eased 92 = .ok (.getfield 143, 3) := by decide +kernel
theorem dX9_eased_95 : decode cX9_eased 95 = .ok (.iload 4, 2) := by decide +kernel
theorem dX9_eased_97 : decode cX9_eased 97 = .ok (.iaload, 1) := by decide +kernel
theorem dX9_eased_98 : decode cX9_eased 98 = .ok (.iload_n 2, 1) := by decide +kernel
theorem dX9_eased_99 : decode cX9_eased 99 = .ok (.isub, 1) := by decide +kernel
theorem dX9_eased_100 : decode cX9_eased 100 = .ok (.invokestatic 221, 3) := by decide +kernel
theorem dX9_eased_103 : decode cX9_eased 103 = .ok (.istore 5, 2) := by decide +kernel
theorem dX9_eased_105 : decode cX9_eased 105 = .ok (.iload_n 3, 1) := by decide +kernel
theorem dX9_eased_106 : decode cX9_eased 106 = .ok (.aload_n 0, 1) := by decide +kernel
theorem dX9_eased_107 : decode cX9_eased 107 = .ok (.iload 4, 2) := by decide +kernel
theorem dX9_eased_109 : decode cX9_eased 109 = .ok (.iload_n 1, 1) := by decide +kernel
theorem dX9_eased_110 : decode cX9_eased 110 = .ok (.invokevirtual 211, 3) := by decide +kernel
theorem dX9_eased_113 : decode cX9_eased 113 = .ok (.iadd, 1) := by decide +kernel
theorem dX9_eased_114 : decode cX9_eased 114 = .ok (.istore_n 3, 1) := by decide +kernel
theorem dX9_eased_115 : decode cX9_eased 115 = .ok (.iconst 0, 1) := by decide +kernel
theorem dX9_eased_116 : decode cX9_eased 116 = .ok (.istore 6, 2) := by decide +kernel
theorem dX9_eased_118 : decode cX9_eased 118 = .ok (.iload 6, 2) := by decide +kernel
theorem dX9_eased_120 : decode cX9_eased 120 = .ok (.bipush 40, 2) := by decide +kernel
theorem dX9_eased_122 : decode cX9_eased 122 = .ok (.if_icmp .ge 23, 3) := by decide +kernel
theorem dX9_eased_125 : decode cX9_eased 125 = .ok (.iload_n 3, 1) := by decide +kernel
theorem dX9_eased_126 : decode cX9_eased 126 = .ok (.aload_n 0, 1) := by decide +kernel
theorem dX9_eased_127 : decode cX9_eased 127 = .ok (.iload 4, 2) := by decide +kernel
theorem dX9_eased_129 : decode cX9_eased 129 = .ok (.iload 5, 2) := by decide +kernel
theorem dX9_eased_131 : decode cX9_eased 131 = .ok (.iload_n 1, 1) := by decide +kernel
theorem dX9_eased_132 : decode cX9_eased 132 = .ok (.iload 6, 2) := by decide +kernel
theorem dX9_eased_134 : decode cX9_eased 134 = .ok (.invokevirtual 226, 3) := by decide +kernel
theorem dX9_eased_137 : decode cX9_eased 137 = .ok (.isub, 1) := by decide +kernel
theorem dX9_eased_138 : decode cX9_eased 138 = .ok (.istore_n 3, 1) := by decide +kernel
theorem dX9_eased_139 : decode cX9_eased 139 = .ok (.iinc 6 1, 3) := by decide +kernel
theorem dX9_eased_142 : decode cX9_eased 142 = .ok (.goto (-24), 3) := by decide +kernel
theorem dX9_eased_145 : decode cX9_eased 145 = .ok (.iinc 4 1, 3) := by decide +kernel
theorem dX9_eased_148 : decode cX9_eased 148 = .ok (.goto (-117), 3) := by decide +kernel
theorem dX9_eased_151 : decode cX9_eased 151 = .ok (.iload_n 3, 1) := by decide +kernel
theorem dX9_eased_152 : decode cX9_eased 152 = .ok (.ireturn, 1) := by decide +kernel
theorem dX9_parted_0 : decode cX9_parted 0 = .ok (.aload_n 0, 1) := by decide +kernel
theorem dX9_parted_1 : decode cX9_parted 1 = .ok (.getfield 14, 3) := by decide +kernel
theorem dX9_parted_4 : decode cX9_parted 4 = .ok (.getfield 119, 3) := by decide +kernel
theorem dX9_parted_7 : decode cX9_parted 7 = .ok (.iload_n 1, 1) := by decide +kernel
theorem dX9_parted_8 : decode cX9_parted 8 = .ok (.invokevirtual 131, 3) := by decide +kernel
theorem dX9_parted_11 : decode cX9_parted 11 = .ok (.ifCond .eq 22, 3) := by decide +kernel
theorem dX9_parted_14 : decode cX9_parted 14 = .ok (.aload_n 0, 1) := by decide +kernel
theorem dX9_parted_15 : decode cX9_parted 15 = .ok (.getfield 14, 3) := by decide +kernel
theorem dX9_parted_18 : decode cX9_parted 18 = .ok (.getfield 119, 3) := by decide +kernel
theorem dX9_parted_21 : decode cX9_parted 21 = .ok (.iload_n 2, 1) := by decide +kernel
theorem dX9_parted_22 : decode cX9_parted 22 = .ok (.invokevirtual 131, 3) := by decide +kernel
theorem dX9_parted_25 : decode cX9_parted 25 = .ok (.ifCond .eq 8, 3) := by decide +kernel
theorem dX9_parted_28 : decode cX9_parted 28 = .ok (.iload_n 1, 1) := by decide +kernel
theorem dX9_parted_29 : decode cX9_parted 29 = .ok (.iload_n 2, 1) := by decide +kernel
theorem dX9_parted_30 : decode cX9_parted 30 = .ok (.if_icmp .ne 7, 3) := by decide +kernel
theorem dX9_parted_33 : decode cX9_parted 33 = .ok (.ldc2_w 229, 3) := by decide +kernel
theorem dX9_parted_36 : decode cX9_parted 36 = .ok (.lreturn, 1) := by decide +kernel
theorem dX9_parted_37 : decode cX9_parted 37 = .ok (.aload_n 0, 1) := by decide +kernel
theorem dX9_parted_38 : decode cX9_parted 38 = .ok (.invokevirtual 107, 3) := by decide +kernel
theorem dX9_parted_41 : decode cX9_parted 41 = .ok (.aload_n 0, 1) := by decide +kernel
theorem dX9_parted_42 : decode cX9_parted 42 = .ok (.getfield 35, 3) := by decide +kernel
theorem dX9_parted_45 : decode cX9_parted 45 = .ok (.iload_n 1, 1) := by decide +kernel
theorem dX9_parted_46 : decode cX9_parted 46 = .ok (.invokevirtual 231, 3) := by decide +kernel
theorem dX9_parted_49 : decode cX9_parted 49 = .ok (.aload_n 0, 1) := by decide +kernel
theorem dX9_parted_50 : decode cX9_parted 50 = .ok (.getfield 35, 3) := by decide +kernel
theorem dX9_parted_53 : decode cX9_parted 53 = .ok (.iload_n 2, 1) := by decide +kernel
theorem dX9_parted_54 : decode cX9_parted 54 = .ok (.invokevirtual 231, 3) := by decide +kernel
theorem dX9_parted_57 : decode cX9_parted 57 = .ok (.lxor, 1) := by decide +kernel
theorem dX9_parted_58 : decode cX9_parted 58 = .ok (.lreturn, 1) := by decide +kernel
theorem dX9_quiet_0 : decode cX9_quiet 0 = .ok (.iload_n 1, 1) := by decide +kernel
theorem dX9_quiet_1 : decode cX9_quiet 1 = .ok (.ifCond .lt 8, 3) := by decide +kernel
theorem dX9_quiet_4 : decode cX9_quiet 4 = .ok (.iload_n 1, 1) := by decide +kernel
theorem dX9_quiet_5 : decode cX9_quiet 5 = .ok (.iconst 1, 1) := by decide +kernel
theorem dX9_quiet_6 : decode cX9_quiet 6 = .ok (.if_icmp .le 5, 3) := by decide +kernel
theorem dX9_quiet_9 : decode cX9_quiet 9 = .ok (.iconst (-1), 1) := by decide +kernel
theorem dX9_quiet_10 : decode cX9_quiet 10 = .ok (.ireturn, 1) := by decide +kernel
theorem dX9_quiet_11 : decode cX9_quiet 11 = .ok (.aload_n 0, 1) := by decide +kernel
theorem dX9_quiet_12 : decode cX9_quiet 12 = .ok (.invokevirtual 107, 3) := by decide +kernel
theorem dX9_quiet_15 : decode cX9_quiet 15 = .ok (.aload_n 0, 1) := by decide +kernel
theorem dX9_quiet_16 : decode cX9_quiet 16 = .ok (.lconst 0, 1) := by decide +kernel
theorem dX9_quiet_17 : decode cX9_quiet 17 = .ok (.lconst 0, 1) := by decide +kernel
theorem dX9_quiet_18 : decode cX9_quiet 18 = .ok (.lconst 0, 1) := by decide +kernel
theorem dX9_quiet_19 : decode cX9_quiet 19 = .ok (.invokevirtual 235, 3) := by decide +kernel
theorem dX9_quiet_22 : decode cX9_quiet 22 = .ok (.iconst 0, 1) := by decide +kernel
theorem dX9_quiet_23 : decode cX9_quiet 23 = .ok (.istore_n 2, 1) := by decide +kernel
theorem dX9_quiet_24 : decode cX9_quiet 24 = .ok (.iconst 0, 1) := by decide +kernel
theorem dX9_quiet_25 : decode cX9_quiet 25 = .ok (.istore_n 3, 1) := by decide +kernel
theorem dX9_quiet_26 : decode cX9_quiet 26 = .ok (.iload_n 3, 1) := by decide +kernel
theorem dX9_quiet_27 : decode cX9_quiet 27 = .ok (.aload_n 0, 1) := by decide +kernel
theorem dX9_quiet_28 : decode cX9_quiet 28 = .ok (.getfield 14, 3) := by decide +kernel
theorem dX9_quiet_31 : decode cX9_quiet 31 = .ok (.getfield 119, 3) := by decide +kernel
theorem dX9_quiet_34 : decode cX9_quiet 34 = .ok (.getfield 123, 3) := by decide +kernel
theorem dX9_quiet_37 : decode cX9_quiet 37 = .ok (.if_icmp .ge 42, 3) := by decide +kernel
theorem dX9_quiet_40 : decode cX9_quiet 40 = .ok (.aload_n 0, 1) := by decide +kernel
theorem dX9_quiet_41 : decode cX9_quiet 41 = .ok (.getfield 14, 3) := by decide +kernel
theorem dX9_quiet_44 : decode cX9_quiet 44 = .ok (.getfield 119, 3) := by decide +kernel
theorem dX9_quiet_47 : decode cX9_quiet 47 = .ok (.iload_n 3, 1) := by decide +kernel
theorem dX9_quiet_48 : decode cX9_quiet 48 = .ok (.invokevirtual 156, 3) := by decide +kernel
theorem dX9_quiet_51 : decode cX9_quiet 51 = .ok (.ifCond .eq 22, 3) := by decide +kernel
theorem dX9_quiet_54 : decode cX9_quiet 54 = .ok (.aload_n 0, 1) := by decide +kernel
theorem dX9_quiet_55 : decode cX9_quiet 55 = .ok (.getfield 35, 3) := by decide +kernel
theorem dX9_quiet_58 : decode cX9_quiet 58 = .ok (.iload_n 3, 1) := by decide +kernel
theorem dX9_quiet_59 : decode cX9_quiet 59 = .ok (.invokevirtual 231, 3) := by decide +kernel
theorem dX9_quiet_62 : decode cX9_quiet 62 = .ok (.lconst 0, 1) := by decide +kernel
theorem dX9_quiet_63 : decode cX9_quiet 63 = .ok (.lcmp, 1) := by decide +kernel
theorem dX9_quiet_64 : decode cX9_quiet 64 = .ok (.ifCond .eq 9, 3) := by decide +kernel
theorem dX9_quiet_67 : decode cX9_quiet 67 = .ok (.iload_n 2, 1) := by decide +kernel
theorem dX9_quiet_68 : decode cX9_quiet 68 = .ok (.iconst 1, 1) := by decide +kernel
theorem dX9_quiet_69 : decode cX9_quiet 69 = .ok (.iload_n 3, 1) := by decide +kernel
theorem dX9_quiet_70 : decode cX9_quiet 70 = .ok (.ishl, 1) := by decide +kernel
theorem dX9_quiet_71 : decode cX9_quiet 71 = .ok (.ior, 1) := by decide +kernel
theorem dX9_quiet_72 : decode cX9_quiet 72 = .ok (.istore_n 2, 1) := by decide +kernel
theorem dX9_quiet_73 : decode cX9_quiet 73 = .ok (.iinc 3 1, 3) := by decide +kernel
theorem dX9_quiet_76 : decode cX9_quiet 76 = .ok (.goto (-50), 3) := by decide +kernel
theorem dX9_quiet_79 : decode cX9_quiet 79 = .ok (.aload_n 0, 1) := by decide +kernel
theorem dX9_quiet_80 : decode cX9_quiet 80 = .ok (.iconst 0, 1) := by decide +kernel
theorem dX9_quiet_81 : decode cX9_quiet 81 = .ok (.putfield 46, 3) := by decide +kernel
theorem dX9_quiet_84 : decode cX9_quiet 84 = .ok (.iload_n 1, 1) := by decide +kernel
theorem dX9_quiet_85 : decode cX9_quiet 85 = .ok (.iconst 1, 1) := by decide +kernel
theorem dX9_quiet_86 : decode cX9_quiet 86 = .ok (.if_icmp .ne 5, 3) := by decide +kernel
theorem dX9_quiet_89 : decode cX9_quiet 89 = .ok (.iload_n 2, 1) := by decide +kernel
theorem dX9_quiet_90 : decode cX9_quiet 90 = .ok (.ireturn, 1) := by decide +kernel
theorem dX9_quiet_91 : decode cX9_quiet 91 = .ok (.iload_n 2, 1) := by decide +kernel
theorem dX9_quiet_92 : decode cX9_quiet 92 = .ok (.ifCond .ne 7, 3) := by decide +kernel
theorem dX9_quiet_95 : decode cX9_quiet 95 = .ok (.iconst 1, 1) := by decide +kernel
theorem dX9_quiet_96 : decode cX9_quiet 96 = .ok (.goto 4, 3) := by decide +kernel
theorem dX9_quiet_99 : decode cX9_quiet 99 = .ok (.iconst 0, 1) := by decide +kernel
theorem dX9_quiet_100 : decode cX9_quiet 100 = .ok (.ireturn, 1) := by decide +kernel
theorem dX9_moved_0 : decode cX9_moved 0 = .ok (.aload_n 0, 1) := by decide +kernel
theorem dX9_moved_1 : decode cX9_moved 1 = .ok (.getfield 14, 3) := by decide +kernel
theorem dX9_moved_4 : decode cX9_moved 4 = .ok (.getfield 119, 3) := by decide +kernel
theorem dX9_moved_7 : decode cX9_moved 7 = .ok (.iload_n 1, 1) := by decide +kernel
theorem dX9_moved_8 : decode cX9_moved 8 = .ok (.invokevirtual 131, 3) := by decide +kernel
theorem dX9_moved_11 : decode cX9_moved 11 = .ok (.ifCond .eq 10, 3) := by decide +kernel
theorem dX9_moved_14 : decode cX9_moved 14 = .ok (.iload_n 2, 1) := by decide +kernel
theorem dX9_moved_15 : decode cX9_moved 15 = .ok (.invokestatic 116, 3) := by decide +kernel
theorem dX9_moved_18 : decode cX9_moved 18 = .ok (.ifCond .ne 5, 3) := by decide +kernel
theorem dX9_moved_21 : decode cX9_moved 21 = .ok (.iconst (-1), 1) := by decide +kernel
theorem dX9_moved_22 : decode cX9_moved 22 = .ok (.ireturn, 1) := by decide +kernel
theorem dX9_moved_23 : decode cX9_moved 23 = .ok (.aload_n 0, 1) := by decide +kernel
theorem dX9_moved_24 : decode cX9_moved 24 = .ok (.getfield 14, 3) := by decide +kernel
theorem dX9_moved_27 : decode cX9_moved 27 = .ok (.getfield 119, 3) := by decide +kernel
theorem dX9_moved_30 : decode cX9_moved 30 = .ok (.iload_n 1, 1) := by decide +kernel
theorem dX9_moved_31 : decode cX9_moved 31 = .ok (.invokevirtual 156, 3) := by decide +kernel
theorem dX9_moved_34 : decode cX9_moved 34 = .ok (.ifCond .ne 5, 3) := by decide +kernel
theorem dX9_moved_37 : decode cX9_moved 37 = .ok (.iconst 0, 1) := by decide +kernel
theorem dX9_moved_38 : decode cX9_moved 38 = .ok (.ireturn, 1) := by decide +kernel
theorem dX9_moved_39 : decode cX9_moved 39 = .ok (.aload_n 0, 1) := by decide +kernel
theorem dX9_moved_40 : decode cX9_moved 40 = .ok (.invokevirtual 107, 3) := by decide +kernel
theorem dX9_moved_43 : decode cX9_moved 43 = .ok (.aload_n 0, 1) := by decide +kernel
theorem dX9_moved_44 : decode cX9_moved 44 = .ok (.getfield 14, 3) := by decide +kernel
theorem dX9_moved_47 : decode cX9_moved 47 = .ok (.getfield 119, 3) := by decide +kernel
theorem dX9_moved_50 : decode cX9_moved 50 = .ok (.getfield 137, 3) := by decide +kernel
theorem dX9_moved_53 : decode cX9_moved 53 = .ok (.iload_n 1, 1) := by decide +kernel
theorem dX9_moved_54 : decode cX9_moved 54 = .ok (.iaload, 1) := by decide +kernel
theorem dX9_moved_55 : decode cX9_moved 55 = .ok (.istore_n 3, 1) := by decide +kernel
theorem dX9_moved_56 : decode cX9_moved 56 = .ok (.iconst 0, 1) := by decide +kernel
theorem dX9_moved_57 : decode cX9_moved 57 = .ok (.istore 4, 2) := by decide +kernel
theorem dX9_moved_59 : decode cX9_moved 59 = .ok (.iconst 0, 1) := by decide +kernel
theorem dX9_moved_60 : decode cX9_moved 60 = .ok (.istore 5, 2) := by decide +kernel
theorem dX9_moved_62 : decode cX9_moved 62 = .ok (.iconst 0, 1) := by decide +kernel
theorem dX9_moved_63 : decode cX9_moved 63 = .ok (.istore 6, 2) := by decide +kernel
theorem dX9_moved_65 : decode cX9_moved 65 = .ok (.iload 6, 2) := by decide +kernel
theorem dX9_moved_67 : decode cX9_moved 67 = .ok (.bipush 10, 2) := by decide +kernel
theorem dX9_moved_69 : decode cX9_moved 69 = .ok (.if_icmp .ge 106, 3) := by decide +kernel
theorem dX9_moved_72 : decode cX9_moved 72 = .ok (.aload_n 0, 1) := by decide +kernel
theorem dX9_moved_73 : decode cX9_moved 73 = .ok (.getfield 14, 3) := by decide +kernel
theorem dX9_moved_76 : decode cX9_moved 76 = .ok (.getfield 119, 3) := by decide +kernel
theorem dX9_moved_79 : decode cX9_moved 79 = .ok (.getfield 137, 3) := by decide +kernel
theorem dX9_moved_82 : decode cX9_moved 82 = .ok (.iload_n 1, 1) := by decide +kernel
theorem dX9_moved_83 : decode cX9_moved 83 = .ok (.iload 6, 2) := by decide +kernel
theorem dX9_moved_85 : decode cX9_moved 85 = .ok (.iastore, 1) := by decide +kernel
theorem dX9_moved_86 : decode cX9_moved 86 = .ok (.aload_n 0, 1) := by decide +kernel
theorem dX9_moved_87 : decode cX9_moved 87 = .ok (.getfield 35, 3) := by decide +kernel
theorem dX9_moved_90 : decode cX9_moved 90 = .ok (.aload_n 0, 1) := by decide +kernel
theorem dX9_moved_91 : decode cX9_moved 91 = .ok (.getfield 14, 3) := by decide +kernel
theorem dX9_moved_94 : decode cX9_moved 94 = .ok (.getfield 87, 3) := by decide +kernel
theorem dX9_moved_97 : decode cX9_moved 97 = .ok (.aload_n 0, 1) := by decide +kernel
theorem dX9_moved_98 : decode cX9_moved 98 = .ok (.getfield 14, 3) := by decide +kernel
theorem dX9_moved_101 : decode cX9_moved 101 = .ok (.getfield 119, 3) := by decide +kernel
theorem dX9_moved_104 : decode cX9_moved 104 = .ok (.iload_n 1, 1) := by decide +kernel
theorem dX9_moved_105 : decode cX9_moved 105 = .ok (.invokevirtual 239, 3) := by decide +kernel
theorem dX9_moved_108 : decode cX9_moved 108 = .ok (.aload_n 0, 1) := by decide +kernel
theorem dX9_moved_109 : decode cX9_moved 109 = .ok (.getfield 35, 3) := by decide +kernel
theorem dX9_moved_112 : decode cX9_moved 112 = .ok (.aload_n 0, 1) := by decide +kernel
theorem dX9_moved_113 : decode cX9_moved 113 = .ok (.getfield 14, 3) := by decide +kernel
theorem dX9_moved_116 : decode cX9_moved 116 = .ok (.getfield 119, 3) := by decide +kernel
theorem dX9_moved_119 : decode cX9_moved 119 = .ok (.iload_n 1, 1) := by decide +kernel
theorem dX9_moved_120 : decode cX9_moved 120 = .ok (.aload_n 0, 1) := by decide +kernel
theorem dX9_moved_121 : decode cX9_moved 121 = .ok (.getfield 14, 3) := by decide +kernel
theorem dX9_moved_124 : decode cX9_moved 124 = .ok (.getfield 55, 3) := by decide +kernel
theorem dX9_moved_127 : decode cX9_moved 127 = .ok (.iconst 1, 1) := by decide +kernel
theorem dX9_moved_128 : decode cX9_moved 128 = .ok (.laload, 1) := by decide +kernel
theorem dX9_moved_129 : decode cX9_moved 129 = .ok (.aload_n 0, 1) := by decide +kernel
theorem dX9_moved_130 : decode cX9_moved 130 = .ok (.getfield 14, 3) := by decide +kernel
theorem dX9_moved_133 : decode cX9_moved 133 = .ok (.getfield 55, 3) := by decide +kernel
theorem dX9_moved_136 : decode cX9_moved 136 = .ok (.iconst 2, 1) := by decide +kernel
theorem dX9_moved_137 : decode cX9_moved 137 = .ok (.laload, 1) := by decide +kernel
theorem dX9_moved_138 : decode cX9_moved 138 = .ok (.invokevirtual 243, 3) := by decide +kernel
theorem dX9_moved_141 : decode cX9_moved 141 = .ok (.aload_n 0, 1) := by decide +kernel
theorem dX9_moved_142 : decode cX9_moved 142 = .ok (.iload_n 1, 1) := by decide +kernel
theorem dX9_moved_143 : decode cX9_moved 143 = .ok (.iload_n 2, 1) := by decide +kernel
theorem dX9_moved_144 : decode cX9_moved 144 = .ok (.invokevirtual 211, 3) := by decide +kernel
theorem dX9_moved_147 : decode cX9_moved 147 = .ok (.istore 7, 2) := by decide +kernel
theorem dX9_moved_149 : decode cX9_moved 149 = .ok (.iload 6, 2) := by decide +kernel
theorem dX9_moved_151 : decode cX9_moved 151 = .ok (.ifCond .eq 10, 3) := by decide +kernel
theorem dX9_moved_154 : decode cX9_moved 154 = .ok (.iload 7, 2) := by decide +kernel
theorem dX9_moved_156 : decode cX9_moved 156 = .ok (.iload 5, 2) := by decide +kernel
theorem dX9_moved_158 : decode cX9_moved 158 = .ok (.if_icmp .ge 11, 3) := by decide +kernel
theorem dX9_moved_161 : decode cX9_moved 161 = .ok (.iload 7, 2) := by decide +kernel
theorem dX9_moved_163 : decode cX9_moved 163 = .ok (.istore 5, 2) := by decide +kernel
theorem dX9_moved_165 : decode cX9_moved 165 = .ok (.iload 6, 2) := by decide +kernel
theorem dX9_moved_167 : decode cX9_moved 167 = .ok (.istore 4, 2) := by decide +kernel
theorem dX9_moved_169 : decode cX9_moved 169 = .ok (.iinc 6 1, 3) := by decide +kernel
theorem dX9_moved_172 : decode cX9_moved 172 = .ok (.goto (-107), 3) := by decide +kernel
theorem dX9_moved_175 : decode cX9_moved 175 = .ok (.aload_n 0, 1) := by decide +kernel
theorem dX9_moved_176 : decode cX9_moved 176 = .ok (.getfield 14, 3) := by decide +kernel
theorem dX9_moved_179 : decode cX9_moved 179 = .ok (.getfield 119, 3) := by decide +kernel
theorem dX9_moved_182 : decode cX9_moved 182 = .ok (.getfield 137, 3) := by decide +kernel
theorem dX9_moved_185 : decode cX9_moved 185 = .ok (.iload_n 1, 1) := by decide +kernel
theorem dX9_moved_186 : decode cX9_moved 186 = .ok (.iload_n 3, 1) := by decide +kernel
theorem dX9_moved_187 : decode cX9_moved 187 = .ok (.iastore, 1) := by decide +kernel
theorem dX9_moved_188 : decode cX9_moved 188 = .ok (.aload_n 0, 1) := by decide +kernel
theorem dX9_moved_189 : decode cX9_moved 189 = .ok (.iconst 0, 1) := by decide +kernel
theorem dX9_moved_190 : decode cX9_moved 190 = .ok (.putfield 46, 3) := by decide +kernel
theorem dX9_moved_193 : decode cX9_moved 193 = .ok (.iload 4, 2) := by decide +kernel
theorem dX9_moved_195 : decode cX9_moved 195 = .ok (.ireturn, 1) := by decide +kernel
theorem dX9_older_0 : decode cX9_older 0 = .ok (.aload_n 0, 1) := by decide +kernel
theorem dX9_older_1 : decode cX9_older 1 = .ok (.invokevirtual 107, 3) := by decide +kernel
theorem dX9_older_4 : decode cX9_older 4 = .ok (.aload_n 0, 1) := by decide +kernel
theorem dX9_older_5 : decode cX9_older 5 = .ok (.invokevirtual 247, 3) := by decide +kernel
theorem dX9_older_8 : decode cX9_older 8 = .ok (.istore_n 1, 1) := by decide +kernel
theorem dX9_older_9 : decode cX9_older 9 = .ok (.bipush 40, 2) := by decide +kernel
theorem dX9_older_11 : decode cX9_older 11 = .ok (.istore_n 2, 1) := by decide +kernel
theorem dX9_older_12 : decode cX9_older 12 = .ok (.iload_n 2, 1) := by decide +kernel
theorem dX9_older_13 : decode cX9_older 13 = .ok (.ifCond .le 57, 3) := by decide +kernel
theorem dX9_older_16 : decode cX9_older 16 = .ok (.aload_n 0, 1) := by decide +kernel
theorem dX9_older_17 : decode cX9_older 17 = .ok (.aload_n 0, 1) := by decide +kernel
theorem dX9_older_18 : decode cX9_older 18 = .ok (.getfield 14, 3) := by decide +kernel
theorem dX9_older_21 : decode cX9_older 21 = .ok (.getfield 55, 3) := by decide +kernel
theorem dX9_older_24 : decode cX9_older 24 = .ok (.iconst 0, 1) := by decide +kernel
theorem dX9_older_25 : decode cX9_older 25 = .ok (.laload, 1) := by decide +kernel
theorem dX9_older_26 : decode cX9_older 26 = .ok (.iload_n 2, 1) := by decide +kernel
theorem dX9_older_27 : decode cX9_older 27 = .ok (.lshl, 1) := by decide +kernel
theorem dX9_older_28 : decode cX9_older 28 = .ok (.ldc2_w 53, 3) := by decide +kernel
theorem dX9_older_31 : decode cX9_older 31 = .ok (.land, 1) := by decide +kernel
theorem dX9_older_32 : decode cX9_older 32 = .ok (.aload_n 0, 1) := by decide +kernel
theorem dX9_older_33 : decode cX9_older 33 = .ok (.getfield 14, 3) := by decide +kernel
theorem dX9_older_36 : decode cX9_older 36 = .ok (.getfield 55, 3) := by decide +kernel
theorem dX9_older_39 : decode cX9_older 39 = .ok (.iconst 1, 1) := by decide +kernel
theorem dX9_older_40 : decode cX9_older 40 = .ok (.laload, 1) := by decide +kernel
theorem dX9_older_41 : decode cX9_older 41 = .ok (.aload_n 0, 1) := by decide +kernel
theorem dX9_older_42 : decode cX9_older 42 = .ok (.getfield 14, 3) := by decide +kernel
theorem dX9_older_45 : decode cX9_older 45 = .ok (.getfield 55, 3) := by decide +kernel
theorem dX9_older_48 : decode cX9_older 48 = .ok (.iconst 2, 1) := by decide +kernel
theorem dX9_older_49 : decode cX9_older 49 = .ok (.laload, 1) := by decide +kernel
theorem dX9_older_50 : decode cX9_older 50 = .ok (.invokevirtual 235, 3) := by decide +kernel
theorem dX9_older_53 : decode cX9_older 53 = .ok (.aload_n 0, 1) := by decide +kernel
theorem dX9_older_54 : decode cX9_older 54 = .ok (.invokevirtual 247, 3) := by decide +kernel
theorem dX9_older_57 : decode cX9_older 57 = .ok (.iload_n 1, 1) := by decide +kernel
theorem dX9_older_58 : decode cX9_older 58 = .ok (.if_icmp .lt 6, 3) := by decide +kernel
theorem dX9_older_61 : decode cX9_older 61 = .ok (.goto 9, 3) := by decide +kernel
theorem dX9_older_64 : decode cX9_older 64 = .ok (.iinc 2 (-1), 3) := by decide +kernel
theorem dX9_older_67 : decode cX9_older 67 = .ok (.goto (-55), 3) := by decide +kernel
theorem dX9_older_70 : decode cX9_older 70 = .ok (.aload_n 0, 1) := by decide +kernel
theorem dX9_older_71 : decode cX9_older 71 = .ok (.iconst 0, 1) := by decide +kernel
theorem dX9_older_72 : decode cX9_older 72 = .ok (.putfield 46, 3) := by decide +kernel
theorem dX9_older_75 : decode cX9_older 75 = .ok (.iload_n 2, 1) := by decide +kernel
theorem dX9_older_76 : decode cX9_older 76 = .ok (.ireturn, 1) := by decide +kernel
theorem dX9_harm_0 : decode cX9_harm 0 = .ok (.aload_n 0, 1) := by decide +kernel
theorem dX9_harm_1 : decode cX9_harm 1 = .ok (.getfield 14, 3) := by decide +kernel
theorem dX9_harm_4 : decode cX9_harm 4 = .ok (.getfield 119, 3) := by decide +kernel
theorem dX9_harm_7 : decode cX9_harm 7 = .ok (.iload_n 1, 1) := by decide +kernel
theorem dX9_harm_8 : decode cX9_harm 8 = .ok (.invokevirtual 131, 3) := by decide +kernel
theorem dX9_harm_11 : decode cX9_harm 11 = .ok (.ifCond .ne 5, 3) := by decide +kernel
theorem dX9_harm_14 : decode cX9_harm 14 = .ok (.iconst (-1), 1) := by decide +kernel
theorem dX9_harm_15 : decode cX9_harm 15 = .ok (.ireturn, 1) := by decide +kernel
theorem dX9_harm_16 : decode cX9_harm 16 = .ok (.aload_n 0, 1) := by decide +kernel
theorem dX9_harm_17 : decode cX9_harm 17 = .ok (.invokevirtual 107, 3) := by decide +kernel
theorem dX9_harm_20 : decode cX9_harm 20 = .ok (.aload_n 0, 1) := by decide +kernel
theorem dX9_harm_21 : decode cX9_harm 21 = .ok (.iload_n 1, 1) := by decide +kernel
theorem dX9_harm_22 : decode cX9_harm 22 = .ok (.invokevirtual 250, 3) := by decide +kernel
theorem dX9_harm_25 : decode cX9_harm 25 = .ok (.ireturn, 1) := by decide +kernel
theorem dX9_act_0 : decode cX9_act 0 = .ok (.aload_n 0, 1) := by decide +kernel
theorem dX9_act_1 : decode cX9_act 1 = .ok (.getfield 42, 3) := by decide +kernel
theorem dX9_act_4 : decode cX9_act 4 = .ok (.iconst 0, 1) := by decide +kernel
theorem dX9_act_5 : decode cX9_act 5 = .ok (.putfield 253, 3) := by decide +kernel
theorem dX9_act_8 : decode cX9_act 8 = .ok (.aload_n 0, 1) := by decide +kernel
theorem dX9_act_9 : decode cX9_act 9 = .ok (.getfield 14, 3) := by decide +kernel
theorem dX9_act_12 : decode cX9_act 12 = .ok (.getfield 119, 3) := by decide +kernel
theorem dX9_act_15 : decode cX9_act 15 = .ok (.iload_n 1, 1) := by decide +kernel
theorem dX9_act_16 : decode cX9_act 16 = .ok (.invokevirtual 131, 3) := by decide +kernel
theorem dX9_act_19 : decode cX9_act 19 = .ok (.ifCond .eq 12, 3) := by decide +kernel
theorem dX9_act_22 : decode cX9_act 22 = .ok (.iload_n 2, 1) := by decide +kernel
theorem dX9_act_23 : decode cX9_act 23 = .ok (.ifCond .lt 8, 3) := by decide +kernel
theorem dX9_act_26 : decode cX9_act 26 = .ok (.iload_n 2, 1) := by decide +kernel
theorem dX9_act_27 : decode cX9_act 27 = .ok (.iconst 3, 1) := by decide +kernel
theorem dX9_act_28 : decode cX9_act 28 = .ok (.if_icmp .lt 5, 3) := by decide +kernel
theorem dX9_act_31 : decode cX9_act 31 = .ok (.iconst 0, 1) := by decide +kernel
theorem dX9_act_32 : decode cX9_act 32 = .ok (.ireturn, 1) := by decide +kernel
theorem dX9_act_33 : decode cX9_act 33 = .ok (.aload_n 0, 1) := by decide +kernel
theorem dX9_act_34 : decode cX9_act 34 = .ok (.getfield 42, 3) := by decide +kernel
theorem dX9_act_37 : decode cX9_act 37 = .ok (.aload_n 0, 1) := by decide +kernel
theorem dX9_act_38 : decode cX9_act 38 = .ok (.getfield 14, 3) := by decide +kernel
theorem dX9_act_41 : decode cX9_act 41 = .ok (.getfield 119, 3) := by decide +kernel
theorem dX9_act_44 : decode cX9_act 44 = .ok (.iload_n 1, 1) := by decide +kernel
theorem dX9_act_45 : decode cX9_act 45 = .ok (.iload_n 2, 1) := by decide +kernel
theorem dX9_act_46 : decode cX9_act 46 = .ok (.iload_n 3, 1) := by decide +kernel
theorem dX9_act_47 : decode cX9_act 47 = .ok (.invokevirtual 256, 3) := by decide +kernel
theorem dX9_act_50 : decode cX9_act 50 = .ok (.ireturn, 1) := by decide +kernel
theorem dX9_trace_0 : decode cX9_trace 0 = .ok (.iload_n 1, 1) := by decide +kernel
theorem dX9_trace_1 : decode cX9_trace 1 = .ok (.ifCond .lt 26, 3) := by decide +kernel
theorem dX9_trace_4 : decode cX9_trace 4 = .ok (.iload_n 1, 1) := by decide +kernel
theorem dX9_trace_5 : decode cX9_trace 5 = .ok (.aload_n 0, 1) := by decide +kernel
theorem dX9_trace_6 : decode cX9_trace 6 = .ok (.getfield 42, 3) := by decide +kernel
theorem dX9_trace_9 : decode cX9_trace 9 = .ok (.getfield 253, 3) := by decide +kernel
theorem dX9_trace_12 : decode cX9_trace 12 = .ok (.if_icmp .ge 15, 3) := by decide +kernel
theorem dX9_trace_15 : decode cX9_trace 15 = .ok (.iload_n 1, 1) := by decide +kernel
theorem dX9_trace_16 : decode cX9_trace 16 = .ok (.aload_n 0, 1) := by decide +kernel
theorem dX9_trace_17 : decode cX9_trace 17 = .ok (.getfield 42, 3) := by decide +kernel
theorem dX9_trace_20 : decode cX9_trace 20 = .ok (.getfield 260, 3) := by decide +kernel
theorem dX9_trace_23 : decode cX9_trace 23 = .ok (.arraylength, 1) := by decide +kernel
theorem dX9_trace_24 : decode cX9_trace 24 = .ok (.if_icmp .lt 5, 3) := by decide +kernel
theorem dX9_trace_27 : decode cX9_trace 27 = .ok (.iconst (-1), 1) := by decide +kernel
theorem dX9_trace_28 : decode cX9_trace 28 = .ok (.ireturn, 1) := by decide +kernel
theorem dX9_trace_29 : decode cX9_trace 29 = .ok (.aload_n 0, 1) := by decide +kernel
theorem dX9_trace_30 : decode cX9_trace 30 = .ok (.getfield 42, 3) := by decide +kernel
theorem dX9_trace_33 : decode cX9_trace 33 = .ok (.getfield 260, 3) := by decide +kernel
theorem dX9_trace_36 : decode cX9_trace 36 = .ok (.iload_n 1, 1) := by decide +kernel
theorem dX9_trace_37 : decode cX9_trace 37 = .ok (.iaload, 1) := by decide +kernel
theorem dX9_trace_38 : decode cX9_trace 38 = .ok (.ireturn, 1) := by decide +kernel
theorem dX9_as_0 : decode cX9_as 0 = .ok (.aload_n 0, 1) := by decide +kernel
theorem dX9_as_1 : decode cX9_as 1 = .ok (.getfield 14, 3) := by decide +kernel
theorem dX9_as_4 : decode cX9_as 4 = .ok (.getfield 119, 3) := by decide +kernel
theorem dX9_as_7 : decode cX9_as 7 = .ok (.iload_n 1, 1) := by decide +kernel
theorem dX9_as_8 : decode cX9_as 8 = .ok (.invokevirtual 131, 3) := by decide +kernel
theorem dX9_as_11 : decode cX9_as 11 = .ok (.ifCond .eq 10, 3) := by decide +kernel
theorem dX9_as_14 : decode cX9_as 14 = .ok (.iload_n 2, 1) := by decide +kernel
theorem dX9_as_15 : decode cX9_as 15 = .ok (.invokestatic 113, 3) := by decide +kernel
theorem dX9_as_18 : decode cX9_as 18 = .ok (.ifCond .ne 5, 3) := by decide +kernel
theorem dX9_as_21 : decode cX9_as 21 = .ok (.iconst (-1), 1) := by decide +kernel
theorem dX9_as_22 : decode cX9_as 22 = .ok (.ireturn, 1) := by decide +kernel
theorem dX9_as_23 : decode cX9_as 23 = .ok (.aload_n 0, 1) := by decide +kernel
theorem dX9_as_24 : decode cX9_as 24 = .ok (.getfield 14, 3) := by decide +kernel
theorem dX9_as_27 : decode cX9_as 27 = .ok (.getfield 119, 3) := by decide +kernel
theorem dX9_as_30 : decode cX9_as 30 = .ok (.getfield 134, 3) := by decide +kernel
theorem dX9_as_33 : decode cX9_as 33 = .ok (.iload_n 1, 1) := by decide +kernel
theorem dX9_as_34 : decode cX9_as 34 = .ok (.iaload, 1) := by decide +kernel
theorem dX9_as_35 : decode cX9_as 35 = .ok (.iload_n 2, 1) := by decide +kernel
theorem dX9_as_36 : decode cX9_as 36 = .ok (.invokestatic 217, 3) := by decide +kernel
theorem dX9_as_39 : decode cX9_as 39 = .ok (.ifCond .eq 18, 3) := by decide +kernel
theorem dX9_as_42 : decode cX9_as 42 = .ok (.aload_n 0, 1) := by decide +kernel
theorem dX9_as_43 : decode cX9_as 43 = .ok (.getfield 14, 3) := by decide +kernel
theorem dX9_as_46 : decode cX9_as 46 = .ok (.getfield 119, 3) := by decide +kernel
theorem dX9_as_49 : decode cX9_as 49 = .ok (.getfield 140, 3) := by decide +kernel
theorem dX9_as_52 : decode cX9_as 52 = .ok (.iload_n 1, 1) := by decide +kernel
theorem dX9_as_53 : decode cX9_as 53 = .ok (.iaload, 1) := by decide +kernel
theorem dX9_as_54 : decode cX9_as 54 = .ok (.goto 5, 3) := by decide +kernel
theorem dX9_as_57 : decode cX9_as 57 = .ok (.bipush (-6), 2) := by decide +kernel
theorem dX9_as_59 : decode cX9_as 59 = .ok (.ireturn, 1) := by decide +kernel
theorem dX9_image_0 : decode cX9_image 0 = .ok (.aload_n 0, 1) := by decide +kernel
theorem dX9_image_1 : decode cX9_image 1 = .ok (.getfield 18, 3) := by decide +kernel
theorem dX9_image_4 : decode cX9_image 4 = .ok (.aload_n 0, 1) := by decide +kernel
theorem dX9_image_5 : decode cX9_image 5 = .ok (.getfield 14, 3) := by decide +kernel
theorem dX9_image_8 : decode cX9_image 8 = .ok (.invokevirtual 263, 3) := by decide +kernel
theorem dX9_image_11 : decode cX9_image 11 = .ok (.aload_n 0, 1) := by decide +kernel
theorem dX9_image_12 : decode cX9_image 12 = .ok (.iconst 1, 1) := by decide +kernel
theorem dX9_image_13 : decode cX9_image 13 = .ok (.putfield 21, 3) := by decide +kernel
theorem dX9_image_16 : decode cX9_image 16 = .ok (.aload_n 0, 1) := by decide +kernel
theorem dX9_image_17 : decode cX9_image 17 = .ok (.getfield 14, 3) := by decide +kernel
theorem dX9_image_20 : decode cX9_image 20 = .ok (.getfield 119, 3) := by decide +kernel
theorem dX9_image_23 : decode cX9_image 23 = .ok (.getfield 123, 3) := by decide +kernel
theorem dX9_image_26 : decode cX9_image 26 = .ok (.ireturn, 1) := by decide +kernel
theorem dX9_undo_0 : decode cX9_undo 0 = .ok (.aload_n 0, 1) := by decide +kernel
theorem dX9_undo_1 : decode cX9_undo 1 = .ok (.getfield 21, 3) := by decide +kernel
theorem dX9_undo_4 : decode cX9_undo 4 = .ok (.ifCond .ne 6, 3) := by decide +kernel
theorem dX9_undo_7 : decode cX9_undo 7 = .ok (.bipush (-3), 2) := by decide +kernel
theorem dX9_undo_9 : decode cX9_undo 9 = .ok (.ireturn, 1) := by decide +kernel
theorem dX9_undo_10 : decode cX9_undo 10 = .ok (.aload_n 0, 1) := by decide +kernel
theorem dX9_undo_11 : decode cX9_undo 11 = .ok (.getfield 14, 3) := by decide +kernel
theorem dX9_undo_14 : decode cX9_undo 14 = .ok (.aload_n 0, 1) := by decide +kernel
theorem dX9_undo_15 : decode cX9_undo 15 = .ok (.getfield 18, 3) := by decide +kernel
theorem dX9_undo_18 : decode cX9_undo 18 = .ok (.invokevirtual 263, 3) := by decide +kernel
theorem dX9_undo_21 : decode cX9_undo 21 = .ok (.aload_n 0, 1) := by decide +kernel
theorem dX9_undo_22 : decode cX9_undo 22 = .ok (.iconst 0, 1) := by decide +kernel
theorem dX9_undo_23 : decode cX9_undo 23 = .ok (.putfield 46, 3) := by decide +kernel
theorem dX9_undo_26 : decode cX9_undo 26 = .ok (.aload_n 0, 1) := by decide +kernel
theorem dX9_undo_27 : decode cX9_undo 27 = .ok (.getfield 14, 3) := by decide +kernel
theorem dX9_undo_30 : decode cX9_undo 30 = .ok (.getfield 119, 3) := by decide +kernel
theorem dX9_undo_33 : decode cX9_undo 33 = .ok (.getfield 123, 3) := by decide +kernel
theorem dX9_undo_36 : decode cX9_undo 36 = .ok (.ireturn, 1) := by decide +kernel
theorem dX9_count_0 : decode cX9_count 0 = .ok (.iload_n 1, 1) := by decide +kernel
theorem dX9_count_1 : decode cX9_count 1 = .ok (.tableswitch 84 0 4 #[35, 46, 54, 65, 76], 35) := by decide +kernel
theorem dX9_count_36 : decode cX9_count 36 = .ok (.aload_n 0, 1) := by decide +kernel
theorem dX9_count_37 : decode cX9_count 37 = .ok (.getfield 14, 3) := by decide +kernel
theorem dX9_count_40 : decode cX9_count 40 = .ok (.getfield 119, 3) := by decide +kernel
theorem dX9_count_43 : decode cX9_count 43 = .ok (.getfield 123, 3) := by decide +kernel
theorem dX9_count_46 : decode cX9_count 46 = .ok (.ireturn, 1) := by decide +kernel
theorem dX9_count_47 : decode cX9_count 47 = .ok (.aload_n 0, 1) := by decide +kernel
theorem dX9_count_48 : decode cX9_count 48 = .ok (.getfield 14, 3) := by decide +kernel
theorem dX9_count_51 : decode cX9_count 51 = .ok (.getfield 77, 3) := by decide +kernel
theorem dX9_count_54 : decode cX9_count 54 = .ok (.ireturn, 1) := by decide +kernel
theorem dX9_count_55 : decode cX9_count 55 = .ok (.aload_n 0, 1) := by decide +kernel
theorem dX9_count_56 : decode cX9_count 56 = .ok (.getfield 14, 3) := by decide +kernel
theorem dX9_count_59 : decode cX9_count 59 = .ok (.getfield 175, 3) := by decide +kernel
theorem dX9_count_62 : decode cX9_count 62 = .ok (.getfield 179, 3) := by decide +kernel
theorem dX9_count_65 : decode cX9_count 65 = .ok (.ireturn, 1) := by decide +kernel
theorem dX9_count_66 : decode cX9_count 66 = .ok (.aload_n 0, 1) := by decide +kernel
theorem dX9_count_67 : decode cX9_count 67 = .ok (.getfield 14, 3) := by decide +kernel
theorem dX9_count_70 : decode cX9_count 70 = .ok (.getfield 63, 3) := by decide +kernel
theorem dX9_count_73 : decode cX9_count 73 = .ok (.getfield 67, 3) := by decide +kernel
theorem dX9_count_76 : decode cX9_count 76 = .ok (.ireturn, 1) := by decide +kernel
theorem dX9_count_77 : decode cX9_count 77 = .ok (.aload_n 0, 1) := by decide +kernel
theorem dX9_count_78 : decode cX9_count 78 = .ok (.getfield 42, 3) := by decide +kernel
theorem dX9_count_81 : decode cX9_count 81 = .ok (.getfield 253, 3) := by decide +kernel
theorem dX9_count_84 : decode cX9_count 84 = .ok (.ireturn, 1) := by decide +kernel
theorem dX9_count_85 : decode cX9_count 85 = .ok (.iconst (-1), 1) := by decide +kernel
theorem dX9_count_86 : decode cX9_count 86 = .ok (.ireturn, 1) := by decide +kernel
theorem dX9_isMinute_0 : decode cX9_isMinute 0 = .ok (.iload_n 0, 1) := by decide +kernel
theorem dX9_isMinute_1 : decode cX9_isMinute 1 = .ok (.ifCond .lt 13, 3) := by decide +kernel
theorem dX9_isMinute_4 : decode cX9_isMinute 4 = .ok (.iload_n 0, 1) := by decide +kernel
theorem dX9_isMinute_5 : decode cX9_isMinute 5 = .ok (.bipush 40, 2) := by decide +kernel
theorem dX9_isMinute_7 : decode cX9_isMinute 7 = .ok (.if_icmp .ge 7, 3) := by decide +kernel
theorem dX9_isMinute_10 : decode cX9_isMinute 10 = .ok (.iconst 1, 1) := by decide +kernel
theorem dX9_isMinute_11 : decode cX9_isMinute 11 = .ok (.goto 4, 3) := by decide +kernel
theorem dX9_isMinute_14 : decode cX9_isMinute 14 = .ok (.iconst 0, 1) := by decide +kernel
theorem dX9_isMinute_15 : decode cX9_isMinute 15 = .ok (.ireturn, 1) := by decide +kernel
theorem dX9_isPlace_0 : decode cX9_isPlace 0 = .ok (.iload_n 0, 1) := by decide +kernel
theorem dX9_isPlace_1 : decode cX9_isPlace 1 = .ok (.ifCond .lt 13, 3) := by decide +kernel
theorem dX9_isPlace_4 : decode cX9_isPlace 4 = .ok (.iload_n 0, 1) := by decide +kernel
theorem dX9_isPlace_5 : decode cX9_isPlace 5 = .ok (.bipush 10, 2) := by decide +kernel
theorem dX9_isPlace_7 : decode cX9_isPlace 7 = .ok (.if_icmp .ge 7, 3) := by decide +kernel
theorem dX9_isPlace_10 : decode cX9_isPlace 10 = .ok (.iconst 1, 1) := by decide +kernel
theorem dX9_isPlace_11 : decode cX9_isPlace 11 = .ok (.goto 4, 3) := by decide +kernel
theorem dX9_isPlace_14 : decode cX9_isPlace 14 = .ok (.iconst 0, 1) := by decide +kernel
theorem dX9_isPlace_15 : decode cX9_isPlace 15 = .ok (.ireturn, 1) := by decide +kernel
theorem dX9_isKind_0 : decode cX9_isKind 0 = .ok (.iload_n 0, 1) := by decide +kernel
theorem dX9_isKind_1 : decode cX9_isKind 1 = .ok (.ifCond .lt 13, 3) := by decide +kernel
theorem dX9_isKind_4 : decode cX9_isKind 4 = .ok (.iload_n 0, 1) := by decide +kernel
theorem dX9_isKind_5 : decode cX9_isKind 5 = .ok (.bipush 7, 2) := by decide +kernel
theorem dX9_isKind_7 : decode cX9_isKind 7 = .ok (.if_icmp .ge 7, 3) := by decide +kernel
theorem dX9_isKind_10 : decode cX9_isKind 10 = .ok (.iconst 1, 1) := by decide +kernel
theorem dX9_isKind_11 : decode cX9_isKind 11 = .ok (.goto 4, 3) := by decide +kernel
theorem dX9_isKind_14 : decode cX9_isKind 14 = .ok (.iconst 0, 1) := by decide +kernel
theorem dX9_isKind_15 : decode cX9_isKind 15 = .ok (.ireturn, 1) := by decide +kernel
theorem dX9_isUnder_0 : decode cX9_isUnder 0 = .ok (.iload_n 0, 1) := by decide +kernel
theorem dX9_isUnder_1 : decode cX9_isUnder 1 = .ok (.istore_n 2, 1) := by decide +kernel
theorem dX9_isUnder_2 : decode cX9_isUnder 2 = .ok (.iconst 0, 1) := by decide +kernel
theorem dX9_isUnder_3 : decode cX9_isUnder 3 = .ok (.istore_n 3, 1) := by decide +kernel
theorem dX9_isUnder_4 : decode cX9_isUnder 4 = .ok (.iload_n 3, 1) := by decide +kernel
theorem dX9_isUnder_5 : decode cX9_isUnder 5 = .ok (.bipush 7, 2) := by decide +kernel
theorem dX9_isUnder_7 : decode cX9_isUnder 7 = .ok (.if_icmp .ge 29, 3) := by decide +kernel
theorem dX9_isUnder_10 : decode cX9_isUnder 10 = .ok (.iload_n 2, 1) := by decide +kernel
theorem dX9_isUnder_11 : decode cX9_isUnder 11 = .ok (.invokestatic 113, 3) := by decide +kernel
theorem dX9_isUnder_14 : decode cX9_isUnder 14 = .ok (.ifCond .eq 22, 3) := by decide +kernel
theorem dX9_isUnder_17 : decode cX9_isUnder 17 = .ok (.iload_n 2, 1) := by decide +kernel
theorem dX9_isUnder_18 : decode cX9_isUnder 18 = .ok (.iload_n 1, 1) := by decide +kernel
theorem dX9_isUnder_19 : decode cX9_isUnder 19 = .ok (.if_icmp .ne 5, 3) := by decide +kernel
theorem dX9_isUnder_22 : decode cX9_isUnder 22 = .ok (.iconst 1, 1) := by decide +kernel
theorem dX9_isUnder_23 : decode cX9_isUnder 23 = .ok (.ireturn, 1) := by decide +kernel
theorem dX9_isUnder_24 : decode cX9_isUnder 24 = .ok (.getstatic 266, 3) := by decide +kernel
theorem dX9_isUnder_27 : decode cX9_isUnder 27 = .ok (.iload_n 2, 1) := by decide +kernel
theorem dX9_isUnder_28 : decode cX9_isUnder 28 = .ok (.iaload, 1) := by decide +kernel
theorem dX9_isUnder_29 : decode cX9_isUnder 29 = .ok (.istore_n 2, 1) := by decide +kernel
theorem dX9_isUnder_30 : decode cX9_isUnder 30 = .ok (.iinc 3 1, 3) := by decide +kernel
theorem dX9_isUnder_33 : decode cX9_isUnder 33 = .ok (.goto (-29), 3) := by decide +kernel
theorem dX9_isUnder_36 : decode cX9_isUnder 36 = .ok (.iconst 0, 1) := by decide +kernel
theorem dX9_isUnder_37 : decode cX9_isUnder 37 = .ok (.ireturn, 1) := by decide +kernel
theorem dX9_greatestShared_0 : decode cX9_greatestShared 0 = .ok (.iload_n 0, 1) := by decide +kernel
theorem dX9_greatestShared_1 : decode cX9_greatestShared 1 = .ok (.istore_n 2, 1) := by decide +kernel
theorem dX9_greatestShared_2 : decode cX9_greatestShared 2 = .ok (.iload_n 1, 1) := by decide +kernel
theorem dX9_greatestShared_3 : decode cX9_greatestShared 3 = .ok (.istore_n 3, 1) := by decide +kernel
theorem dX9_greatestShared_4 : decode cX9_greatestShared 4 = .ok (.iconst 0, 1) := by decide +kernel
theorem dX9_greatestShared_5 : decode cX9_greatestShared 5 = .ok (.istore 4, 2) := by decide +kernel
theorem dX9_greatestShared_7 : decode cX9_greatestShared 7 = .ok (.iload 4, 2) := by decide +kernel
theorem dX9_greatestShared_9 : decode cX9_greatestShared 9 = .ok (.bipush 100, 2) := by decide +kernel
theorem dX9_greatestShared_11 : decode cX9_greatestShared 11 = .ok (.if_icmp .ge 23, 3) := by decide +kernel
theorem dX9_greatestShared_14 : decode cX9_greatestShared 14 = .ok (.iload_n 3, 1) := by decide +kernel
theorem dX9_greatestShared_15 : decode cX9_greatestShared 15 = .ok (.ifCond .eq 19, 3) := by decide +kernel
theorem dX9_greatestShared_18 : decode cX9_greatestShared 18 = .ok (.iload_n 2, 1) := by decide +kernel
theorem dX9_greatestShared_19 : decode cX9_greatestShared 19 = .ok (.iload_n 3, 1) := by decide +kernel
theorem dX9_greatestShared_20 : decode cX9_greatestShared 20 = .ok (.irem, 1) := by decide +kernel
theorem dX9_greatestShared_21 : decode cX9_greatestShared 21 = .ok (.istore 5, 2) := by decide +kernel
theorem dX9_greatestShared_23 : decode cX9_greatestShared 23 = .ok (.iload_n 3, 1) := by decide +kernel
theorem dX9_greatestShared_24 : decode cX9_greatestShared 24 = .ok (.istore_n 2, 1) := by decide +kernel
theorem dX9_greatestShared_25 : decode cX9_greatestShared 25 = .ok (.iload 5, 2) := by decide +kernel
theorem dX9_greatestShared_27 : decode cX9_greatestShared 27 = .ok (.istore_n 3, 1) := by decide +kernel
theorem dX9_greatestShared_28 : decode cX9_greatestShared 28 = .ok (.iinc 4 1, 3) := by decide +kernel
theorem dX9_greatestShared_31 : decode cX9_greatestShared 31 = .ok (.goto (-24), 3) := by decide +kernel
theorem dX9_greatestShared_34 : decode cX9_greatestShared 34 = .ok (.iload_n 2, 1) := by decide +kernel
theorem dX9_greatestShared_35 : decode cX9_greatestShared 35 = .ok (.ireturn, 1) := by decide +kernel
theorem dX9_settle_0 : decode cX9_settle 0 = .ok (.aload_n 0, 1) := by decide +kernel
theorem dX9_settle_1 : decode cX9_settle 1 = .ok (.getfield 46, 3) := by decide +kernel
theorem dX9_settle_4 : decode cX9_settle 4 = .ok (.ifCond .eq 4, 3) := by decide +kernel
theorem dX9_settle_7 : decode cX9_settle 7 = .ok (.return_, 1) := by decide +kernel
theorem dX9_settle_8 : decode cX9_settle 8 = .ok (.iconst 0, 1) := by decide +kernel
theorem dX9_settle_9 : decode cX9_settle 9 = .ok (.istore_n 1, 1) := by decide +kernel
theorem dX9_settle_10 : decode cX9_settle 10 = .ok (.iload_n 1, 1) := by decide +kernel
theorem dX9_settle_11 : decode cX9_settle 11 = .ok (.aload_n 0, 1) := by decide +kernel
theorem dX9_settle_12 : decode cX9_settle 12 = .ok (.getfield 14, 3) := by decide +kernel
theorem dX9_settle_15 : decode cX9_settle 15 = .ok (.getfield 119, 3) := by decide +kernel
theorem dX9_settle_18 : decode cX9_settle 18 = .ok (.getfield 123, 3) := by decide +kernel
theorem dX9_settle_21 : decode cX9_settle 21 = .ok (.if_icmp .ge 31, 3) := by decide +kernel
theorem dX9_settle_24 : decode cX9_settle 24 = .ok (.aload_n 0, 1) := by decide +kernel
theorem dX9_settle_25 : decode cX9_settle 25 = .ok (.getfield 35, 3) := by decide +kernel
theorem dX9_settle_28 : decode cX9_settle 28 = .ok (.aload_n 0, 1) := by decide +kernel
theorem dX9_settle_29 : decode cX9_settle 29 = .ok (.getfield 14, 3) := by decide +kernel
theorem dX9_settle_32 : decode cX9_settle 32 = .ok (.getfield 87, 3) := by decide +kernel
theorem dX9_settle_35 : decode cX9_settle 35 = .ok (.aload_n 0, 1) := by decide +kernel
theorem dX9_settle_36 : decode cX9_settle 36 = .ok (.getfield 14, 3) := by decide +kernel
theorem dX9_settle_39 : decode cX9_settle 39 = .ok (.getfield 119, 3) := by decide +kernel
theorem dX9_settle_42 : decode cX9_settle 42 = .ok (.iload_n 1, 1) := by decide +kernel
theorem dX9_settle_43 : decode cX9_settle 43 = .ok (.invokevirtual 239, 3) := by decide +kernel
theorem dX9_settle_46 : decode cX9_settle 46 = .ok (.iinc 1 1, 3) := by decide +kernel
theorem dX9_settle_49 : decode cX9_settle 49 = .ok (.goto (-39), 3) := by decide +kernel
theorem dX9_settle_52 : decode cX9_settle 52 = .ok (.aload_n 0, 1) := by decide +kernel
theorem dX9_settle_53 : decode cX9_settle 53 = .ok (.aload_n 0, 1) := by decide +kernel
theorem dX9_settle_54 : decode cX9_settle 54 = .ok (.getfield 14, 3) := by decide +kernel
theorem dX9_settle_57 : decode cX9_settle 57 = .ok (.getfield 55, 3) := by decide +kernel
theorem dX9_settle_60 : decode cX9_settle 60 = .ok (.iconst 0, 1) := by decide +kernel
theorem dX9_settle_61 : decode cX9_settle 61 = .ok (.laload, 1) := by decide +kernel
theorem dX9_settle_62 : decode cX9_settle 62 = .ok (.aload_n 0, 1) := by decide +kernel
theorem dX9_settle_63 : decode cX9_settle 63 = .ok (.getfield 14, 3) := by decide +kernel
theorem dX9_settle_66 : decode cX9_settle 66 = .ok (.getfield 55, 3) := by decide +kernel
theorem dX9_settle_69 : decode cX9_settle 69 = .ok (.iconst 1, 1) := by decide +kernel
theorem dX9_settle_70 : decode cX9_settle 70 = .ok (.laload, 1) := by decide +kernel
theorem dX9_settle_71 : decode cX9_settle 71 = .ok (.aload_n 0, 1) := by decide +kernel
theorem dX9_settle_72 : decode cX9_settle 72 = .ok (.getfield 14, 3) := by decide +kernel
theorem dX9_settle_75 : decode cX9_settle 75 = .ok (.getfield 55, 3) := by decide +kernel
theorem dX9_settle_78 : decode cX9_settle 78 = .ok (.iconst 2, 1) := by decide +kernel
theorem dX9_settle_79 : decode cX9_settle 79 = .ok (.laload, 1) := by decide +kernel
theorem dX9_settle_80 : decode cX9_settle 80 = .ok (.invokevirtual 235, 3) := by decide +kernel
theorem dX9_settle_83 : decode cX9_settle 83 = .ok (.aload_n 0, 1) := by decide +kernel
theorem dX9_settle_84 : decode cX9_settle 84 = .ok (.iconst 1, 1) := by decide +kernel
theorem dX9_settle_85 : decode cX9_settle 85 = .ok (.putfield 46, 3) := by decide +kernel
theorem dX9_settle_88 : decode cX9_settle 88 = .ok (.return_, 1) := by decide +kernel
theorem dX9_ring_0 : decode cX9_ring 0 = .ok (.aload_n 0, 1) := by decide +kernel
theorem dX9_ring_1 : decode cX9_ring 1 = .ok (.getfield 35, 3) := by decide +kernel
theorem dX9_ring_4 : decode cX9_ring 4 = .ok (.aload_n 0, 1) := by decide +kernel
theorem dX9_ring_5 : decode cX9_ring 5 = .ok (.getfield 14, 3) := by decide +kernel
theorem dX9_ring_8 : decode cX9_ring 8 = .ok (.getfield 87, 3) := by decide +kernel
theorem dX9_ring_11 : decode cX9_ring 11 = .ok (.lload_n 1, 1) := by decide +kernel
theorem dX9_ring_12 : decode cX9_ring 12 = .ok (.invokevirtual 269, 3) := by decide +kernel
theorem dX9_ring_15 : decode cX9_ring 15 = .ok (.iconst 0, 1) := by decide +kernel
theorem dX9_ring_16 : decode cX9_ring 16 = .ok (.istore 7, 2) := by decide +kernel
theorem dX9_ring_18 : decode cX9_ring 18 = .ok (.iload 7, 2) := by decide +kernel
theorem dX9_ring_20 : decode cX9_ring 20 = .ok (.aload_n 0, 1) := by decide +kernel
theorem dX9_ring_21 : decode cX9_ring 21 = .ok (.getfield 14, 3) := by decide +kernel
theorem dX9_ring_24 : decode cX9_ring 24 = .ok (.getfield 119, 3) := by decide +kernel
theorem dX9_ring_27 : decode cX9_ring 27 = .ok (.getfield 123, 3) := by decide +kernel
theorem dX9_ring_30 : decode cX9_ring 30 = .ok (.if_icmp .ge 28, 3) := by decide +kernel
theorem dX9_ring_33 : decode cX9_ring 33 = .ok (.aload_n 0, 1) := by decide +kernel
theorem dX9_ring_34 : decode cX9_ring 34 = .ok (.getfield 35, 3) := by decide +kernel
theorem dX9_ring_37 : decode cX9_ring 37 = .ok (.aload_n 0, 1) := by decide +kernel
theorem dX9_ring_38 : decode cX9_ring 38 = .ok (.getfield 14, 3) := by decide +kernel
theorem dX9_ring_41 : decode cX9_ring 41 = .ok (.getfield 119, 3) := by decide +kernel
theorem dX9_ring_44 : decode cX9_ring 44 = .ok (.iload 7, 2) := by decide +kernel
theorem dX9_ring_46 : decode cX9_ring 46 = .ok (.lload_n 3, 1) := by decide +kernel
theorem dX9_ring_47 : decode cX9_ring 47 = .ok (.lload 5, 2) := by decide +kernel
theorem dX9_ring_49 : decode cX9_ring 49 = .ok (.invokevirtual 243, 3) := by decide +kernel
theorem dX9_ring_52 : decode cX9_ring 52 = .ok (.iinc 7 1, 3) := by decide +kernel
theorem dX9_ring_55 : decode cX9_ring 55 = .ok (.goto (-37), 3) := by decide +kernel
theorem dX9_ring_58 : decode cX9_ring 58 = .ok (.return_, 1) := by decide +kernel
theorem dX9_loudOf_0 : decode cX9_loudOf 0 = .ok (.aload_n 0, 1) := by decide +kernel
theorem dX9_loudOf_1 : decode cX9_loudOf 1 = .ok (.getfield 14, 3) := by decide +kernel
theorem dX9_loudOf_4 : decode cX9_loudOf 4 = .ok (.getfield 119, 3) := by decide +kernel
theorem dX9_loudOf_7 : decode cX9_loudOf 7 = .ok (.getfield 137, 3) := by decide +kernel
theorem dX9_loudOf_10 : decode cX9_loudOf 10 = .ok (.iload_n 1, 1) := by decide +kernel
theorem dX9_loudOf_11 : decode cX9_loudOf 11 = .ok (.iaload, 1) := by decide +kernel
theorem dX9_loudOf_12 : decode cX9_loudOf 12 = .ok (.iload_n 3, 1) := by decide +kernel
theorem dX9_loudOf_13 : decode cX9_loudOf 13 = .ok (.isub, 1) := by decide +kernel
theorem dX9_loudOf_14 : decode cX9_loudOf 14 = .ok (.invokestatic 273, 3) := by decide +kernel
theorem dX9_loudOf_17 : decode cX9_loudOf 17 = .ok (.istore 5, 2) := by decide +kernel
theorem dX9_loudOf_19 : decode cX9_loudOf 19 = .ok (.iconst 0, 1) := by decide +kernel
theorem dX9_loudOf_20 : decode cX9_loudOf 20 = .ok (.iload_n 2, 1) := by decide +kernel
theorem dX9_loudOf_21 : decode cX9_loudOf 21 = .ok (.aload_n 0, 1) := by decide +kernel
theorem dX9_loudOf_22 : decode cX9_loudOf 22 = .ok (.getfield 14, 3) := by decide +kernel
theorem dX9_loudOf_25 : decode cX9_loudOf 25 = .ok (.getfield 87, 3) := by decide +kernel
theorem dX9_loudOf_28 : decode cX9_loudOf 28 = .ok (.getfield 100, 3) := by decide +kernel
theorem dX9_loudOf_31 : decode cX9_loudOf 31 = .ok (.iconst 3, 1) := by decide +kernel
theorem dX9_loudOf_32 : decode cX9_loudOf 32 = .ok (.iaload, 1) := by decide +kernel
theorem dX9_loudOf_33 : decode cX9_loudOf 33 = .ok (.iload 5, 2) := by decide +kernel
theorem dX9_loudOf_35 : decode cX9_loudOf 35 = .ok (.imul, 1) := by decide +kernel
theorem dX9_loudOf_36 : decode cX9_loudOf 36 = .ok (.isub, 1) := by decide +kernel
theorem dX9_loudOf_37 : decode cX9_loudOf 37 = .ok (.invokestatic 221, 3) := by decide +kernel
theorem dX9_loudOf_40 : decode cX9_loudOf 40 = .ok (.istore 6, 2) := by decide +kernel
theorem dX9_loudOf_42 : decode cX9_loudOf 42 = .ok (.aload_n 0, 1) := by decide +kernel
theorem dX9_loudOf_43 : decode cX9_loudOf 43 = .ok (.getfield 35, 3) := by decide +kernel
theorem dX9_loudOf_46 : decode cX9_loudOf 46 = .ok (.getfield 110, 3) := by decide +kernel
theorem dX9_loudOf_49 : decode cX9_loudOf 49 = .ok (.iload 4, 2) := by decide +kernel
theorem dX9_loudOf_51 : decode cX9_loudOf 51 = .ok (.iaload, 1) := by decide +kernel
theorem dX9_loudOf_52 : decode cX9_loudOf 52 = .ok (.ifCond .gt 22, 3) := by decide +kernel
theorem dX9_loudOf_55 : decode cX9_loudOf 55 = .ok (.aload_n 0, 1) := by decide +kernel
theorem dX9_loudOf_56 : decode cX9_loudOf 56 = .ok (.getfield 14, 3) := by decide +kernel
theorem dX9_loudOf_59 : decode cX9_loudOf 59 = .ok (.getfield 119, 3) := by decide +kernel
theorem dX9_loudOf_62 : decode cX9_loudOf 62 = .ok (.getfield 134, 3) := by decide +kernel
theorem dX9_loudOf_65 : decode cX9_loudOf 65 = .ok (.iload_n 1, 1) := by decide +kernel
theorem dX9_loudOf_66 : decode cX9_loudOf 66 = .ok (.iaload, 1) := by decide +kernel
theorem dX9_loudOf_67 : decode cX9_loudOf 67 = .ok (.iconst 2, 1) := by decide +kernel
theorem dX9_loudOf_68 : decode cX9_loudOf 68 = .ok (.invokestatic 217, 3) := by decide +kernel
theorem dX9_loudOf_71 : decode cX9_loudOf 71 = .ok (.ifCond .eq 29, 3) := by decide +kernel
theorem dX9_loudOf_74 : decode cX9_loudOf 74 = .ok (.iload 6, 2) := by decide +kernel
theorem dX9_loudOf_76 : decode cX9_loudOf 76 = .ok (.iload_n 2, 1) := by decide +kernel
theorem dX9_loudOf_77 : decode cX9_loudOf 77 = .ok (.iconst 5, 1) := by decide +kernel
theorem dX9_loudOf_78 : decode cX9_loudOf 78 = .ok (.isub, 1) := by decide +kernel
theorem dX9_loudOf_79 : decode cX9_loudOf 79 = .ok (.aload_n 0, 1) := by decide +kernel
theorem dX9_loudOf_80 : decode cX9_loudOf 80 = .ok (.getfield 14, 3) := by decide +kernel
theorem dX9_loudOf_83 : decode cX9_loudOf 83 = .ok (.getfield 87, 3) := by decide +kernel
theorem dX9_loudOf_86 : decode cX9_loudOf 86 = .ok (.getfield 100, 3) := by decide +kernel
theorem dX9_loudOf_89 : decode cX9_loudOf 89 = .ok (.iconst 2, 1) := by decide +kernel
theorem dX9_loudOf_90 : decode cX9_loudOf 90 = .ok (.iaload, 1) := by decide +kernel
theorem dX9_loudOf_91 : decode cX9_loudOf 91 = .ok (.iload 5, 2) := by decide +kernel
theorem dX9_loudOf_93 : decode cX9_loudOf 93 = .ok (.imul, 1) := by decide +kernel
theorem dX9_loudOf_94 : decode cX9_loudOf 94 = .ok (.isub, 1) := by decide +kernel
theorem dX9_loudOf_95 : decode cX9_loudOf 95 = .ok (.invokestatic 221, 3) := by decide +kernel
theorem dX9_loudOf_98 : decode cX9_loudOf 98 = .ok (.istore 6, 2) := by decide +kernel
theorem dX9_loudOf_100 : decode cX9_loudOf 100 = .ok (.iload 6, 2) := by decide +kernel
theorem dX9_loudOf_102 : decode cX9_loudOf 102 = .ok (.ireturn, 1) := by decide +kernel
theorem dX9_heardOf_0 : decode cX9_heardOf 0 = .ok (.aload_n 0, 1) := by decide +kernel
theorem dX9_heardOf_1 : decode cX9_heardOf 1 = .ok (.iload_n 1, 1) := by decide +kernel
theorem dX9_heardOf_2 : decode cX9_heardOf 2 = .ok (.iload_n 2, 1) := by decide +kernel
theorem dX9_heardOf_3 : decode cX9_heardOf 3 = .ok (.iload_n 3, 1) := by decide +kernel
theorem dX9_heardOf_4 : decode cX9_heardOf 4 = .ok (.iload 4, 2) := by decide +kernel
theorem dX9_heardOf_6 : decode cX9_heardOf 6 = .ok (.invokevirtual 162, 3) := by decide +kernel
theorem dX9_heardOf_9 : decode cX9_heardOf 9 = .ok (.aload_n 0, 1) := by decide +kernel
theorem dX9_heardOf_10 : decode cX9_heardOf 10 = .ok (.getfield 14, 3) := by decide +kernel
theorem dX9_heardOf_13 : decode cX9_heardOf 13 = .ok (.getfield 87, 3) := by decide +kernel
theorem dX9_heardOf_16 : decode cX9_heardOf 16 = .ok (.getfield 100, 3) := by decide +kernel
theorem dX9_heardOf_19 : decode cX9_heardOf 19 = .ok (.iconst 4, 1) := by decide +kernel
theorem dX9_heardOf_20 : decode cX9_heardOf 20 = .ok (.iaload, 1) := by decide +kernel
theorem dX9_heardOf_21 : decode cX9_heardOf 21 = .ok (.if_icmp .ge 5, 3) := by decide +kernel
theorem dX9_heardOf_24 : decode cX9_heardOf 24 = .ok (.iconst 0, 1) := by decide +kernel
theorem dX9_heardOf_25 : decode cX9_heardOf 25 = .ok (.ireturn, 1) := by decide +kernel
theorem dX9_heardOf_26 : decode cX9_heardOf 26 = .ok (.aload_n 0, 1) := by decide +kernel
theorem dX9_heardOf_27 : decode cX9_heardOf 27 = .ok (.getfield 35, 3) := by decide +kernel
theorem dX9_heardOf_30 : decode cX9_heardOf 30 = .ok (.iload_n 1, 1) := by decide +kernel
theorem dX9_heardOf_31 : decode cX9_heardOf 31 = .ok (.iload 4, 2) := by decide +kernel
theorem dX9_heardOf_33 : decode cX9_heardOf 33 = .ok (.invokevirtual 159, 3) := by decide +kernel
theorem dX9_heardOf_36 : decode cX9_heardOf 36 = .ok (.ireturn, 1) := by decide +kernel
theorem dX9_heardAlone_0 : decode cX9_heardAlone 0 = .ok (.aload_n 0, 1) := by decide +kernel
theorem dX9_heardAlone_1 : decode cX9_heardAlone 1 = .ok (.iload_n 1, 1) := by decide +kernel
theorem dX9_heardAlone_2 : decode cX9_heardAlone 2 = .ok (.aload_n 0, 1) := by decide +kernel
theorem dX9_heardAlone_3 : decode cX9_heardAlone 3 = .ok (.getfield 14, 3) := by decide +kernel
theorem dX9_heardAlone_6 : decode cX9_heardAlone 6 = .ok (.getfield 119, 3) := by decide +kernel
theorem dX9_heardAlone_9 : decode cX9_heardAlone 9 = .ok (.getfield 143, 3) := by decide +kernel
theorem dX9_heardAlone_12 : decode cX9_heardAlone 12 = .ok (.iload_n 1, 1) := by decide +kernel
theorem dX9_heardAlone_13 : decode cX9_heardAlone 13 = .ok (.iaload, 1) := by decide +kernel
theorem dX9_heardAlone_14 : decode cX9_heardAlone 14 = .ok (.iload_n 2, 1) := by decide +kernel
theorem dX9_heardAlone_15 : decode cX9_heardAlone 15 = .ok (.iload_n 3, 1) := by decide +kernel
theorem dX9_heardAlone_16 : decode cX9_heardAlone 16 = .ok (.invokevirtual 226, 3) := by decide +kernel
theorem dX9_heardAlone_19 : decode cX9_heardAlone 19 = .ok (.ireturn, 1) := by decide +kernel
theorem dX9_heardInDayOf_0 : decode cX9_heardInDayOf 0 = .ok (.iconst 0, 1) := by decide +kernel
theorem dX9_heardInDayOf_1 : decode cX9_heardInDayOf 1 = .ok (.istore_n 3, 1) := by decide +kernel
theorem dX9_heardInDayOf_2 : decode cX9_heardInDayOf 2 = .ok (.iconst 0, 1) := by decide +kernel
theorem dX9_heardInDayOf_3 : decode cX9_heardInDayOf 3 = .ok (.istore 4, 2) := by decide +kernel
theorem dX9_heardInDayOf_5 : decode cX9_heardInDayOf 5 = .ok (.iload 4, 2) := by decide +kernel
theorem dX9_heardInDayOf_7 : decode cX9_heardInDayOf 7 = .ok (.bipush 40, 2) := by decide +kernel
theorem dX9_heardInDayOf_9 : decode cX9_heardInDayOf 9 = .ok (.if_icmp .ge 20, 3) := by decide +kernel
theorem dX9_heardInDayOf_12 : decode cX9_heardInDayOf 12 = .ok (.iload_n 3, 1) := by decide +kernel
theorem dX9_heardInDayOf_13 : decode cX9_heardInDayOf 13 = .ok (.aload_n 0, 1) := by decide +kernel
theorem dX9_heardInDayOf_14 : decode cX9_heardInDayOf 14 = .ok (.iload_n 1, 1) := by decide +kernel
theorem dX9_heardInDayOf_15 : decode cX9_heardInDayOf 15 = .ok (.iload_n 2, 1) := by decide +kernel
theorem dX9_heardInDayOf_16 : decode cX9_heardInDayOf 16 = .ok (.iload 4, 2) := by decide +kernel
theorem dX9_heardInDayOf_18 : decode cX9_heardInDayOf 18 = .ok (.invokevirtual 276, 3) := by decide +kernel
theorem dX9_heardInDayOf_21 : decode cX9_heardInDayOf 21 = .ok (.iadd, 1) := by decide +kernel
theorem dX9_heardInDayOf_22 : decode cX9_heardInDayOf 22 = .ok (.istore_n 3, 1) := by decide +kernel
theorem dX9_heardInDayOf_23 : decode cX9_heardInDayOf 23 = .ok (.iinc 4 1, 3) := by decide +kernel
theorem dX9_heardInDayOf_26 : decode cX9_heardInDayOf 26 = .ok (.goto (-21), 3) := by decide +kernel
theorem dX9_heardInDayOf_29 : decode cX9_heardInDayOf 29 = .ok (.iload_n 3, 1) := by decide +kernel
theorem dX9_heardInDayOf_30 : decode cX9_heardInDayOf 30 = .ok (.ireturn, 1) := by decide +kernel
theorem dX9_heardAt_0 : decode cX9_heardAt 0 = .ok (.iconst 0, 1) := by decide +kernel
theorem dX9_heardAt_1 : decode cX9_heardAt 1 = .ok (.istore_n 3, 1) := by decide +kernel
theorem dX9_heardAt_2 : decode cX9_heardAt 2 = .ok (.iconst 0, 1) := by decide +kernel
theorem dX9_heardAt_3 : decode cX9_heardAt 3 = .ok (.istore 4, 2) := by decide +kernel
theorem dX9_heardAt_5 : decode cX9_heardAt 5 = .ok (.iload 4, 2) := by decide +kernel
theorem dX9_heardAt_7 : decode cX9_heardAt 7 = .ok (.aload_n 0, 1) := by decide +kernel
theorem dX9_heardAt_8 : decode cX9_heardAt 8 = .ok (.getfield 14, 3) := by decide +kernel
theorem dX9_heardAt_11 : decode cX9_heardAt 11 = .ok (.getfield 119, 3) := by decide +kernel
theorem dX9_heardAt_14 : decode cX9_heardAt 14 = .ok (.getfield 123, 3) := by decide +kernel
theorem dX9_heardAt_17 : decode cX9_heardAt 17 = .ok (.if_icmp .ge 35, 3) := by decide +kernel
theorem dX9_heardAt_20 : decode cX9_heardAt 20 = .ok (.aload_n 0, 1) := by decide +kernel
theorem dX9_heardAt_21 : decode cX9_heardAt 21 = .ok (.getfield 14, 3) := by decide +kernel
theorem dX9_heardAt_24 : decode cX9_heardAt 24 = .ok (.getfield 119, 3) := by decide +kernel
theorem dX9_heardAt_27 : decode cX9_heardAt 27 = .ok (.iload 4, 2) := by decide +kernel
theorem dX9_heardAt_29 : decode cX9_heardAt 29 = .ok (.invokevirtual 156, 3) := by decide +kernel
theorem dX9_heardAt_32 : decode cX9_heardAt 32 = .ok (.ifCond .eq 14, 3) := by decide +kernel
theorem dX9_heardAt_35 : decode cX9_heardAt 35 = .ok (.iload_n 3, 1) := by decide +kernel
theorem dX9_heardAt_36 : decode cX9_heardAt 36 = .ok (.aload_n 0, 1) := by decide +kernel
theorem dX9_heardAt_37 : decode cX9_heardAt 37 = .ok (.iload 4, 2) := by decide +kernel
theorem dX9_heardAt_39 : decode cX9_heardAt 39 = .ok (.iload_n 1, 1) := by decide +kernel
theorem dX9_heardAt_40 : decode cX9_heardAt 40 = .ok (.iload_n 2, 1) := by decide +kernel
theorem dX9_heardAt_41 : decode cX9_heardAt 41 = .ok (.invokevirtual 276, 3) := by decide +kernel
theorem dX9_heardAt_44 : decode cX9_heardAt 44 = .ok (.iadd, 1) := by decide +kernel
theorem dX9_heardAt_45 : decode cX9_heardAt 45 = .ok (.istore_n 3, 1) := by decide +kernel
theorem dX9_heardAt_46 : decode cX9_heardAt 46 = .ok (.iinc 4 1, 3) := by decide +kernel
theorem dX9_heardAt_49 : decode cX9_heardAt 49 = .ok (.goto (-44), 3) := by decide +kernel
theorem dX9_heardAt_52 : decode cX9_heardAt 52 = .ok (.iload_n 3, 1) := by decide +kernel
theorem dX9_heardAt_53 : decode cX9_heardAt 53 = .ok (.ireturn, 1) := by decide +kernel
theorem dX9_heardInDay_0 : decode cX9_heardInDay 0 = .ok (.iconst 0, 1) := by decide +kernel
theorem dX9_heardInDay_1 : decode cX9_heardInDay 1 = .ok (.istore_n 2, 1) := by decide +kernel
theorem dX9_heardInDay_2 : decode cX9_heardInDay 2 = .ok (.iconst 0, 1) := by decide +kernel
theorem dX9_heardInDay_3 : decode cX9_heardInDay 3 = .ok (.istore_n 3, 1) := by decide +kernel
theorem dX9_heardInDay_4 : decode cX9_heardInDay 4 = .ok (.iload_n 3, 1) := by decide +kernel
theorem dX9_heardInDay_5 : decode cX9_heardInDay 5 = .ok (.bipush 40, 2) := by decide +kernel
theorem dX9_heardInDay_7 : decode cX9_heardInDay 7 = .ok (.if_icmp .ge 18, 3) := by decide +kernel
theorem dX9_heardInDay_10 : decode cX9_heardInDay 10 = .ok (.iload_n 2, 1) := by decide +kernel
theorem dX9_heardInDay_11 : decode cX9_heardInDay 11 = .ok (.aload_n 0, 1) := by decide +kernel
theorem dX9_heardInDay_12 : decode cX9_heardInDay 12 = .ok (.iload_n 1, 1) := by decide +kernel
theorem dX9_heardInDay_13 : decode cX9_heardInDay 13 = .ok (.iload_n 3, 1) := by decide +kernel
theorem dX9_heardInDay_14 : decode cX9_heardInDay 14 = .ok (.invokevirtual 169, 3) := by decide +kernel
theorem dX9_heardInDay_17 : decode cX9_heardInDay 17 = .ok (.iadd, 1) := by decide +kernel
theorem dX9_heardInDay_18 : decode cX9_heardInDay 18 = .ok (.istore_n 2, 1) := by decide +kernel
theorem dX9_heardInDay_19 : decode cX9_heardInDay 19 = .ok (.iinc 3 1, 3) := by decide +kernel
theorem dX9_heardInDay_22 : decode cX9_heardInDay 22 = .ok (.goto (-18), 3) := by decide +kernel
theorem dX9_heardInDay_25 : decode cX9_heardInDay 25 = .ok (.iload_n 2, 1) := by decide +kernel
theorem dX9_heardInDay_26 : decode cX9_heardInDay 26 = .ok (.ireturn, 1) := by decide +kernel
theorem dX9_loudOfAll_0 : decode cX9_loudOfAll 0 = .ok (.iconst 0, 1) := by decide +kernel
theorem dX9_loudOfAll_1 : decode cX9_loudOfAll 1 = .ok (.istore_n 3, 1) := by decide +kernel
theorem dX9_loudOfAll_2 : decode cX9_loudOfAll 2 = .ok (.iconst 0, 1) := by decide +kernel
theorem dX9_loudOfAll_3 : decode cX9_loudOfAll 3 = .ok (.istore 4, 2) := by decide +kernel
theorem dX9_loudOfAll_5 : decode cX9_loudOfAll 5 = .ok (.iload 4, 2) := by decide +kernel
theorem dX9_loudOfAll_7 : decode cX9_loudOfAll 7 = .ok (.aload_n 0, 1) := by decide +kernel
theorem dX9_loudOfAll_8 : decode cX9_loudOfAll 8 = .ok (.getfield 14, 3) := by decide +kernel
theorem dX9_loudOfAll_11 : decode cX9_loudOfAll 11 = .ok (.getfield 119, 3) := by decide +kernel
theorem dX9_loudOfAll_14 : decode cX9_loudOfAll 14 = .ok (.getfield 123, 3) := by decide +kernel
theorem dX9_loudOfAll_17 : decode cX9_loudOfAll 17 = .ok (.if_icmp .ge 73, 3) := by decide +kernel
theorem dX9_loudOfAll_20 : decode cX9_loudOfAll 20 = .ok (.aload_n 0, 1) := by decide +kernel
theorem dX9_loudOfAll_21 : decode cX9_loudOfAll 21 = .ok (.getfield 14, 3) := by decide +kernel
theorem dX9_loudOfAll_24 : decode cX9_loudOfAll 24 = .ok (.getfield 119, 3) := by decide +kernel
theorem dX9_loudOfAll_27 : decode cX9_loudOfAll 27 = .ok (.iload 4, 2) := by decide +kernel
theorem dX9_loudOfAll_29 : decode cX9_loudOfAll 29 = .ok (.invokevirtual 156, 3) := by decide +kernel
theorem dX9_loudOfAll_32 : decode cX9_loudOfAll 32 = .ok (.ifCond .eq 20, 3) := by decide +kernel
theorem dX9_loudOfAll_35 : decode cX9_loudOfAll 35 = .ok (.aload_n 0, 1) := by decide +kernel
theorem dX9_loudOfAll_36 : decode cX9_loudOfAll 36 = .ok (.getfield 35, 3) := by decide +kernel
theorem dX9_loudOfAll_39 : decode cX9_loudOfAll 39 = .ok (.iload 4, 2) := by decide +kernel
theorem dX9_loudOfAll_41 : decode cX9_loudOfAll 41 = .ok (.iload_n 2, 1) := by decide +kernel
theorem dX9_loudOfAll_42 : decode cX9_loudOfAll 42 = .ok (.invokevirtual 159, 3) := by decide +kernel
theorem dX9_loudOfAll_45 : decode cX9_loudOfAll 45 = .ok (.ifCond .le 7, 3) := by decide +kernel
theorem dX9_loudOfAll_48 : decode cX9_loudOfAll 48 = .ok (.iconst 1, 1) := by decide +kernel
theorem dX9_loudOfAll_49 : decode cX9_loudOfAll 49 = .ok (.goto 4, 3) := by decide +kernel
theorem dX9_loudOfAll_52 : decode cX9_loudOfAll 52 = .ok (.iconst 0, 1) := by decide +kernel
theorem dX9_loudOfAll_53 : decode cX9_loudOfAll 53 = .ok (.istore 5, 2) := by decide +kernel
theorem dX9_loudOfAll_55 : decode cX9_loudOfAll 55 = .ok (.iload 5, 2) := by decide +kernel
theorem dX9_loudOfAll_57 : decode cX9_loudOfAll 57 = .ok (.ifCond .eq 27, 3) := by decide +kernel
theorem dX9_loudOfAll_60 : decode cX9_loudOfAll 60 = .ok (.iload_n 3, 1) := by decide +kernel
theorem dX9_loudOfAll_61 : decode cX9_loudOfAll 61 = .ok (.aload_n 0, 1) := by decide +kernel
theorem dX9_loudOfAll_62 : decode cX9_loudOfAll 62 = .ok (.iload 4, 2) := by decide +kernel
theorem dX9_loudOfAll_64 : decode cX9_loudOfAll 64 = .ok (.aload_n 0, 1) := by decide +kernel
theorem dX9_loudOfAll_65 : decode cX9_loudOfAll 65 = .ok (.getfield 14, 3) := by decide +kernel
theorem dX9_loudOfAll_68 : decode cX9_loudOfAll 68 = .ok (.getfield 119, 3) := by decide +kernel
theorem dX9_loudOfAll_71 : decode cX9_loudOfAll 71 = .ok (.getfield 143, 3) := by decide +kernel
theorem dX9_loudOfAll_74 : decode cX9_loudOfAll 74 = .ok (.iload 4, 2) := by decide +kernel
theorem dX9_loudOfAll_76 : decode cX9_loudOfAll 76 = .ok (.iaload, 1) := by decide +kernel
theorem dX9_loudOfAll_77 : decode cX9_loudOfAll 77 = .ok (.iload_n 1, 1) := by decide +kernel
theorem dX9_loudOfAll_78 : decode cX9_loudOfAll 78 = .ok (.iload_n 2, 1) := by decide +kernel
theorem dX9_loudOfAll_79 : decode cX9_loudOfAll 79 = .ok (.invokevirtual 162, 3) := by decide +kernel
theorem dX9_loudOfAll_82 : decode cX9_loudOfAll 82 = .ok (.iadd, 1) := by decide +kernel
theorem dX9_loudOfAll_83 : decode cX9_loudOfAll 83 = .ok (.istore_n 3, 1) := by decide +kernel
theorem dX9_loudOfAll_84 : decode cX9_loudOfAll 84 = .ok (.iinc 4 1, 3) := by decide +kernel
theorem dX9_loudOfAll_87 : decode cX9_loudOfAll 87 = .ok (.goto (-82), 3) := by decide +kernel
theorem dX9_loudOfAll_90 : decode cX9_loudOfAll 90 = .ok (.iload_n 3, 1) := by decide +kernel
theorem dX9_loudOfAll_91 : decode cX9_loudOfAll 91 = .ok (.ireturn, 1) := by decide +kernel
theorem dX9_fittingRows_0 : decode cX9_fittingRows 0 = .ok (.iconst 0, 1) := by decide +kernel
theorem dX9_fittingRows_1 : decode cX9_fittingRows 1 = .ok (.istore_n 2, 1) := by decide +kernel
theorem dX9_fittingRows_2 : decode cX9_fittingRows 2 = .ok (.iconst 0, 1) := by decide +kernel
theorem dX9_fittingRows_3 : decode cX9_fittingRows 3 = .ok (.istore_n 3, 1) := by decide +kernel
theorem dX9_fittingRows_4 : decode cX9_fittingRows 4 = .ok (.iload_n 3, 1) := by decide +kernel
theorem dX9_fittingRows_5 : decode cX9_fittingRows 5 = .ok (.aload_n 0, 1) := by decide +kernel
theorem dX9_fittingRows_6 : decode cX9_fittingRows 6 = .ok (.getfield 14, 3) := by decide +kernel
theorem dX9_fittingRows_9 : decode cX9_fittingRows 9 = .ok (.getfield 175, 3) := by decide +kernel
theorem dX9_fittingRows_12 : decode cX9_fittingRows 12 = .ok (.getfield 179, 3) := by decide +kernel
theorem dX9_fittingRows_15 : decode cX9_fittingRows 15 = .ok (.if_icmp .ge 59, 3) := by decide +kernel
theorem dX9_fittingRows_18 : decode cX9_fittingRows 18 = .ok (.aload_n 0, 1) := by decide +kernel
theorem dX9_fittingRows_19 : decode cX9_fittingRows 19 = .ok (.iload_n 1, 1) := by decide +kernel
theorem dX9_fittingRows_20 : decode cX9_fittingRows 20 = .ok (.aload_n 0, 1) := by decide +kernel
theorem dX9_fittingRows_21 : decode cX9_fittingRows 21 = .ok (.getfield 14, 3) := by decide +kernel
theorem dX9_fittingRows_24 : decode cX9_fittingRows 24 = .ok (.getfield 175, 3) := by decide +kernel
theorem dX9_fittingRows_27 : decode cX9_fittingRows 27 = .ok (.getfield 279, 3) := by decide +kernel
theorem dX9_fittingRows_30 : decode cX9_fittingRows 30 = .ok (.iload_n 3, 1) := by decide +kernel
theorem dX9_fittingRows_31 : decode cX9_fittingRows 31 = .ok (.iaload, 1) := by decide +kernel
theorem dX9_fittingRows_32 : decode cX9_fittingRows 32 = .ok (.aload_n 0, 1) := by decide +kernel
theorem dX9_fittingRows_33 : decode cX9_fittingRows 33 = .ok (.getfield 14, 3) := by decide +kernel
theorem dX9_fittingRows_36 : decode cX9_fittingRows 36 = .ok (.getfield 175, 3) := by decide +kernel
theorem dX9_fittingRows_39 : decode cX9_fittingRows 39 = .ok (.getfield 280, 3) := by decide +kernel
theorem dX9_fittingRows_42 : decode cX9_fittingRows 42 = .ok (.iload_n 3, 1) := by decide +kernel
theorem dX9_fittingRows_43 : decode cX9_fittingRows 43 = .ok (.iaload, 1) := by decide +kernel
theorem dX9_fittingRows_44 : decode cX9_fittingRows 44 = .ok (.invokevirtual 276, 3) := by decide +kernel
theorem dX9_fittingRows_47 : decode cX9_fittingRows 47 = .ok (.aload_n 0, 1) := by decide +kernel
theorem dX9_fittingRows_48 : decode cX9_fittingRows 48 = .ok (.getfield 14, 3) := by decide +kernel
theorem dX9_fittingRows_51 : decode cX9_fittingRows 51 = .ok (.getfield 175, 3) := by decide +kernel
theorem dX9_fittingRows_54 : decode cX9_fittingRows 54 = .ok (.getfield 283, 3) := by decide +kernel
theorem dX9_fittingRows_57 : decode cX9_fittingRows 57 = .ok (.iload_n 3, 1) := by decide +kernel
theorem dX9_fittingRows_58 : decode cX9_fittingRows 58 = .ok (.iaload, 1) := by decide +kernel
theorem dX9_fittingRows_59 : decode cX9_fittingRows 59 = .ok (.if_icmp .ne 9, 3) := by decide +kernel
theorem dX9_fittingRows_62 : decode cX9_fittingRows 62 = .ok (.iload_n 2, 1) := by decide +kernel
theorem dX9_fittingRows_63 : decode cX9_fittingRows 63 = .ok (.iconst 1, 1) := by decide +kernel
theorem dX9_fittingRows_64 : decode cX9_fittingRows 64 = .ok (.iload_n 3, 1) := by decide +kernel
theorem dX9_fittingRows_65 : decode cX9_fittingRows 65 = .ok (.ishl, 1) := by decide +kernel
theorem dX9_fittingRows_66 : decode cX9_fittingRows 66 = .ok (.ior, 1) := by decide +kernel
theorem dX9_fittingRows_67 : decode cX9_fittingRows 67 = .ok (.istore_n 2, 1) := by decide +kernel
theorem dX9_fittingRows_68 : decode cX9_fittingRows 68 = .ok (.iinc 3 1, 3) := by decide +kernel
theorem dX9_fittingRows_71 : decode cX9_fittingRows 71 = .ok (.goto (-67), 3) := by decide +kernel
theorem dX9_fittingRows_74 : decode cX9_fittingRows 74 = .ok (.iload_n 2, 1) := by decide +kernel
theorem dX9_fittingRows_75 : decode cX9_fittingRows 75 = .ok (.ireturn, 1) := by decide +kernel
theorem dX9_mostFitting_0 : decode cX9_mostFitting 0 = .ok (.bipush (-5), 2) := by decide +kernel
theorem dX9_mostFitting_2 : decode cX9_mostFitting 2 = .ok (.istore_n 1, 1) := by decide +kernel
theorem dX9_mostFitting_3 : decode cX9_mostFitting 3 = .ok (.iconst (-1), 1) := by decide +kernel
theorem dX9_mostFitting_4 : decode cX9_mostFitting 4 = .ok (.istore_n 2, 1) := by decide +kernel
theorem dX9_mostFitting_5 : decode cX9_mostFitting 5 = .ok (.iconst 0, 1) := by decide +kernel
theorem dX9_mostFitting_6 : decode cX9_mostFitting 6 = .ok (.istore_n 3, 1) := by decide +kernel
theorem dX9_mostFitting_7 : decode cX9_mostFitting 7 = .ok (.iload_n 3, 1) := by decide +kernel
theorem dX9_mostFitting_8 : decode cX9_mostFitting 8 = .ok (.aload_n 0, 1) := by decide +kernel
theorem dX9_mostFitting_9 : decode cX9_mostFitting 9 = .ok (.getfield 14, 3) := by decide +kernel
theorem dX9_mostFitting_12 : decode cX9_mostFitting 12 = .ok (.getfield 119, 3) := by decide +kernel
theorem dX9_mostFitting_15 : decode cX9_mostFitting 15 = .ok (.getfield 123, 3) := by decide +kernel
theorem dX9_mostFitting_18 : decode cX9_mostFitting 18 = .ok (.if_icmp .ge 30, 3) := by decide +kernel
theorem dX9_mostFitting_21 : decode cX9_mostFitting 21 = .ok (.aload_n 0, 1) := by decide +kernel
theorem dX9_mostFitting_22 : decode cX9_mostFitting 22 = .ok (.iload_n 3, 1) := by decide +kernel
theorem dX9_mostFitting_23 : decode cX9_mostFitting 23 = .ok (.invokevirtual 185, 3) := by decide +kernel
theorem dX9_mostFitting_26 : decode cX9_mostFitting 26 = .ok (.invokestatic 188, 3) := by decide +kernel
theorem dX9_mostFitting_29 : decode cX9_mostFitting 29 = .ok (.istore 4, 2) := by decide +kernel
theorem dX9_mostFitting_31 : decode cX9_mostFitting 31 = .ok (.iload 4, 2) := by decide +kernel
theorem dX9_mostFitting_33 : decode cX9_mostFitting 33 = .ok (.iload_n 2, 1) := by decide +kernel
theorem dX9_mostFitting_34 : decode cX9_mostFitting 34 = .ok (.if_icmp .le 8, 3) := by decide +kernel
theorem dX9_mostFitting_37 : decode cX9_mostFitting 37 = .ok (.iload 4, 2) := by decide +kernel
theorem dX9_mostFitting_39 : decode cX9_mostFitting 39 = .ok (.istore_n 2, 1) := by decide +kernel
theorem dX9_mostFitting_40 : decode cX9_mostFitting 40 = .ok (.iload_n 3, 1) := by decide +kernel
theorem dX9_mostFitting_41 : decode cX9_mostFitting 41 = .ok (.istore_n 1, 1) := by decide +kernel
theorem dX9_mostFitting_42 : decode cX9_mostFitting 42 = .ok (.iinc 3 1, 3) := by decide +kernel
theorem dX9_mostFitting_45 : decode cX9_mostFitting 45 = .ok (.goto (-38), 3) := by decide +kernel
theorem dX9_mostFitting_48 : decode cX9_mostFitting 48 = .ok (.iload_n 1, 1) := by decide +kernel
theorem dX9_mostFitting_49 : decode cX9_mostFitting 49 = .ok (.ireturn, 1) := by decide +kernel
theorem dX9_allFitting_0 : decode cX9_allFitting 0 = .ok (.iconst 0, 1) := by decide +kernel
theorem dX9_allFitting_1 : decode cX9_allFitting 1 = .ok (.istore_n 1, 1) := by decide +kernel
theorem dX9_allFitting_2 : decode cX9_allFitting 2 = .ok (.iload_n 1, 1) := by decide +kernel
theorem dX9_allFitting_3 : decode cX9_allFitting 3 = .ok (.aload_n 0, 1) := by decide +kernel
theorem dX9_allFitting_4 : decode cX9_allFitting 4 = .ok (.getfield 14, 3) := by decide +kernel
theorem dX9_allFitting_7 : decode cX9_allFitting 7 = .ok (.getfield 175, 3) := by decide +kernel
theorem dX9_allFitting_10 : decode cX9_allFitting 10 = .ok (.getfield 179, 3) := by decide +kernel
theorem dX9_allFitting_13 : decode cX9_allFitting 13 = .ok (.if_icmp .ge 71, 3) := by decide +kernel
theorem dX9_allFitting_16 : decode cX9_allFitting 16 = .ok (.iconst 0, 1) := by decide +kernel
theorem dX9_allFitting_17 : decode cX9_allFitting 17 = .ok (.istore_n 2, 1) := by decide +kernel
theorem dX9_allFitting_18 : decode cX9_allFitting 18 = .ok (.iload_n 2, 1) := by decide +kernel
theorem dX9_allFitting_19 : decode cX9_allFitting 19 = .ok (.aload_n 0, 1) := by decide +kernel
theorem dX9_allFitting_20 : decode cX9_allFitting 20 = .ok (.getfield 14, 3) := by decide +kernel
theorem dX9_allFitting_23 : decode cX9_allFitting 23 = .ok (.getfield 119, 3) := by decide +kernel
theorem dX9_allFitting_26 : decode cX9_allFitting 26 = .ok (.getfield 123, 3) := by decide +kernel
theorem dX9_allFitting_29 : decode cX9_allFitting 29 = .ok (.if_icmp .ge 49, 3) := by decide +kernel
theorem dX9_allFitting_32 : decode cX9_allFitting 32 = .ok (.aload_n 0, 1) := by decide +kernel
theorem dX9_allFitting_33 : decode cX9_allFitting 33 = .ok (.getfield 49, 3) := by decide +kernel
theorem dX9_allFitting_36 : decode cX9_allFitting 36 = .ok (.iload_n 1, 1) := by decide +kernel
theorem dX9_allFitting_37 : decode cX9_allFitting 37 = .ok (.bipush 10, 2) := by decide +kernel
theorem dX9_allFitting_39 : decode cX9_allFitting 39 = .ok (.imul, 1) := by decide +kernel
theorem dX9_allFitting_40 : decode cX9_allFitting 40 = .ok (.iload_n 2, 1) := by decide +kernel
theorem dX9_allFitting_41 : decode cX9_allFitting 41 = .ok (.iadd, 1) := by decide +kernel
theorem dX9_allFitting_42 : decode cX9_allFitting 42 = .ok (.aload_n 0, 1) := by decide +kernel
theorem dX9_allFitting_43 : decode cX9_allFitting 43 = .ok (.iload_n 2, 1) := by decide +kernel
theorem dX9_allFitting_44 : decode cX9_allFitting 44 = .ok (.aload_n 0, 1) := by decide +kernel
theorem dX9_allFitting_45 : decode cX9_allFitting 45 = .ok (.getfield 14, 3) := by decide +kernel
theorem dX9_allFitting_48 : decode cX9_allFitting 48 = .ok (.getfield 175, 3) := by decide +kernel
theorem dX9_allFitting_51 : decode cX9_allFitting 51 = .ok (.getfield 279, 3) := by decide +kernel
theorem dX9_allFitting_54 : decode cX9_allFitting 54 = .ok (.iload_n 1, 1) := by decide +kernel
theorem dX9_allFitting_55 : decode cX9_allFitting 55 = .ok (.iaload, 1) := by decide +kernel
theorem dX9_allFitting_56 : decode cX9_allFitting 56 = .ok (.aload_n 0, 1) := by decide +kernel
theorem dX9_allFitting_57 : decode cX9_allFitting 57 = .ok (.getfield 14, 3) := by decide +kernel
theorem dX9_allFitting_60 : decode cX9_allFitting 60 = .ok (.getfield 175, 3) := by decide +kernel
theorem dX9_allFitting_63 : decode cX9_allFitting 63 = .ok (.getfield 280, 3) := by decide +kernel
theorem dX9_allFitting_66 : decode cX9_allFitting 66 = .ok (.iload_n 1, 1) := by decide +kernel
theorem dX9_allFitting_67 : decode cX9_allFitting 67 = .ok (.iaload, 1) := by decide +kernel
theorem dX9_allFitting_68 : decode cX9_allFitting 68 = .ok (.invokevirtual 276, 3) := by decide +kernel
theorem dX9_allFitting_71 : decode cX9_allFitting 71 = .ok (.iastore, 1) := by decide +kernel
theorem dX9_allFitting_72 : decode cX9_allFitting 72 = .ok (.iinc 2 1, 3) := by decide +kernel
theorem dX9_allFitting_75 : decode cX9_allFitting 75 = .ok (.goto (-57), 3) := by decide +kernel
theorem dX9_allFitting_78 : decode cX9_allFitting 78 = .ok (.iinc 1 1, 3) := by decide +kernel
theorem dX9_allFitting_81 : decode cX9_allFitting 81 = .ok (.goto (-79), 3) := by decide +kernel
theorem dX9_allFitting_84 : decode cX9_allFitting 84 = .ok (.bipush (-5), 2) := by decide +kernel
theorem dX9_allFitting_86 : decode cX9_allFitting 86 = .ok (.istore_n 1, 1) := by decide +kernel
theorem dX9_allFitting_87 : decode cX9_allFitting 87 = .ok (.bipush 11, 2) := by decide +kernel
theorem dX9_allFitting_89 : decode cX9_allFitting 89 = .ok (.istore_n 2, 1) := by decide +kernel
theorem dX9_allFitting_90 : decode cX9_allFitting 90 = .ok (.iconst 0, 1) := by decide +kernel
theorem dX9_allFitting_91 : decode cX9_allFitting 91 = .ok (.istore_n 3, 1) := by decide +kernel
theorem dX9_allFitting_92 : decode cX9_allFitting 92 = .ok (.iload_n 3, 1) := by decide +kernel
theorem dX9_allFitting_93 : decode cX9_allFitting 93 = .ok (.iconst 1, 1) := by decide +kernel
theorem dX9_allFitting_94 : decode cX9_allFitting 94 = .ok (.aload_n 0, 1) := by decide +kernel
theorem dX9_allFitting_95 : decode cX9_allFitting 95 = .ok (.getfield 14, 3) := by decide +kernel
theorem dX9_allFitting_98 : decode cX9_allFitting 98 = .ok (.getfield 119, 3) := by decide +kernel
theorem dX9_allFitting_101 : decode cX9_allFitting 101 = .ok (.getfield 123, 3) := by decide +kernel
theorem dX9_allFitting_104 : decode cX9_allFitting 104 = .ok (.ishl, 1) := by decide +kernel
theorem dX9_allFitting_105 : decode cX9_allFitting 105 = .ok (.if_icmp .ge 32, 3) := by decide +kernel
theorem dX9_allFitting_108 : decode cX9_allFitting 108 = .ok (.iload_n 3, 1) := by decide +kernel
theorem dX9_allFitting_109 : decode cX9_allFitting 109 = .ok (.invokestatic 188, 3) := by decide +kernel
theorem dX9_allFitting_112 : decode cX9_allFitting 112 = .ok (.iload_n 2, 1) := by decide +kernel
theorem dX9_allFitting_113 : decode cX9_allFitting 113 = .ok (.if_icmp .ge 18, 3) := by decide +kernel
theorem dX9_allFitting_116 : decode cX9_allFitting 116 = .ok (.aload_n 0, 1) := by decide +kernel
theorem dX9_allFitting_117 : decode cX9_allFitting 117 = .ok (.iload_n 3, 1) := by decide +kernel
theorem dX9_allFitting_118 : decode cX9_allFitting 118 = .ok (.invokevirtual 286, 3) := by decide +kernel
theorem dX9_allFitting_121 : decode cX9_allFitting 121 = .ok (.ifCond .eq 10, 3) := by decide +kernel
theorem dX9_allFitting_124 : decode cX9_allFitting 124 = .ok (.iload_n 3, 1) := by decide +kernel
theorem dX9_allFitting_125 : decode cX9_allFitting 125 = .ok (.invokestatic 188, 3) := by decide +kernel
theorem dX9_allFitting_128 : decode cX9_allFitting 128 = .ok (.istore_n 2, 1) := by decide +kernel
theorem dX9_allFitting_129 : decode cX9_allFitting 129 = .ok (.iload_n 3, 1) := by decide +kernel
theorem dX9_allFitting_130 : decode cX9_allFitting 130 = .ok (.istore_n 1, 1) := by decide +kernel
theorem dX9_allFitting_131 : decode cX9_allFitting 131 = .ok (.iinc 3 1, 3) := by decide +kernel
theorem dX9_allFitting_134 : decode cX9_allFitting 134 = .ok (.goto (-42), 3) := by decide +kernel
theorem dX9_allFitting_137 : decode cX9_allFitting 137 = .ok (.iload_n 1, 1) := by decide +kernel
theorem dX9_allFitting_138 : decode cX9_allFitting 138 = .ok (.ireturn, 1) := by decide +kernel
theorem dX9_fitsAllRows_0 : decode cX9_fitsAllRows 0 = .ok (.iconst 0, 1) := by decide +kernel
theorem dX9_fitsAllRows_1 : decode cX9_fitsAllRows 1 = .ok (.istore_n 2, 1) := by decide +kernel
theorem dX9_fitsAllRows_2 : decode cX9_fitsAllRows 2 = .ok (.iload_n 2, 1) := by decide +kernel
theorem dX9_fitsAllRows_3 : decode cX9_fitsAllRows 3 = .ok (.aload_n 0, 1) := by decide +kernel
theorem dX9_fitsAllRows_4 : decode cX9_fitsAllRows 4 = .ok (.getfield 14, 3) := by decide +kernel
theorem dX9_fitsAllRows_7 : decode cX9_fitsAllRows 7 = .ok (.getfield 175, 3) := by decide +kernel
theorem dX9_fitsAllRows_10 : decode cX9_fitsAllRows 10 = .ok (.getfield 179, 3) := by decide +kernel
theorem dX9_fitsAllRows_13 : decode cX9_fitsAllRows 13 = .ok (.if_icmp .ge 32, 3) := by decide +kernel
theorem dX9_fitsAllRows_16 : decode cX9_fitsAllRows 16 = .ok (.aload_n 0, 1) := by decide +kernel
theorem dX9_fitsAllRows_17 : decode cX9_fitsAllRows 17 = .ok (.iload_n 2, 1) := by decide +kernel
theorem dX9_fitsAllRows_18 : decode cX9_fitsAllRows 18 = .ok (.iload_n 1, 1) := by decide +kernel
theorem dX9_fitsAllRows_19 : decode cX9_fitsAllRows 19 = .ok (.invokevirtual 214, 3) := by decide +kernel
theorem dX9_fitsAllRows_22 : decode cX9_fitsAllRows 22 = .ok (.aload_n 0, 1) := by decide +kernel
theorem dX9_fitsAllRows_23 : decode cX9_fitsAllRows 23 = .ok (.getfield 14, 3) := by decide +kernel
theorem dX9_fitsAllRows_26 : decode cX9_fitsAllRows 26 = .ok (.getfield 175, 3) := by decide +kernel
theorem dX9_fitsAllRows_29 : decode cX9_fitsAllRows 29 = .ok (.getfield 283, 3) := by decide +kernel
theorem dX9_fitsAllRows_32 : decode cX9_fitsAllRows 32 = .ok (.iload_n 2, 1) := by decide +kernel
theorem dX9_fitsAllRows_33 : decode cX9_fitsAllRows 33 = .ok (.iaload, 1) := by decide +kernel
theorem dX9_fitsAllRows_34 : decode cX9_fitsAllRows 34 = .ok (.if_icmp .eq 5, 3) := by decide +kernel
theorem dX9_fitsAllRows_37 : decode cX9_fitsAllRows 37 = .ok (.iconst 0, 1) := by decide +kernel
theorem dX9_fitsAllRows_38 : decode cX9_fitsAllRows 38 = .ok (.ireturn, 1) := by decide +kernel
theorem dX9_fitsAllRows_39 : decode cX9_fitsAllRows 39 = .ok (.iinc 2 1, 3) := by decide +kernel
theorem dX9_fitsAllRows_42 : decode cX9_fitsAllRows 42 = .ok (.goto (-40), 3) := by decide +kernel
theorem dX9_fitsAllRows_45 : decode cX9_fitsAllRows 45 = .ok (.iconst 1, 1) := by decide +kernel
theorem dX9_fitsAllRows_46 : decode cX9_fitsAllRows 46 = .ok (.ireturn, 1) := by decide +kernel
theorem dX9_shareOf_0 : decode cX9_shareOf 0 = .ok (.iconst 0, 1) := by decide +kernel
theorem dX9_shareOf_1 : decode cX9_shareOf 1 = .ok (.istore_n 3, 1) := by decide +kernel
theorem dX9_shareOf_2 : decode cX9_shareOf 2 = .ok (.iconst 0, 1) := by decide +kernel
theorem dX9_shareOf_3 : decode cX9_shareOf 3 = .ok (.istore 4, 2) := by decide +kernel
theorem dX9_shareOf_5 : decode cX9_shareOf 5 = .ok (.iload 4, 2) := by decide +kernel
theorem dX9_shareOf_7 : decode cX9_shareOf 7 = .ok (.aload_n 0, 1) := by decide +kernel
theorem dX9_shareOf_8 : decode cX9_shareOf 8 = .ok (.getfield 14, 3) := by decide +kernel
theorem dX9_shareOf_11 : decode cX9_shareOf 11 = .ok (.getfield 119, 3) := by decide +kernel
theorem dX9_shareOf_14 : decode cX9_shareOf 14 = .ok (.getfield 123, 3) := by decide +kernel
theorem dX9_shareOf_17 : decode cX9_shareOf 17 = .ok (.if_icmp .ge 33, 3) := by decide +kernel
theorem dX9_shareOf_20 : decode cX9_shareOf 20 = .ok (.iload_n 2, 1) := by decide +kernel
theorem dX9_shareOf_21 : decode cX9_shareOf 21 = .ok (.iload 4, 2) := by decide +kernel
theorem dX9_shareOf_23 : decode cX9_shareOf 23 = .ok (.ishr, 1) := by decide +kernel
theorem dX9_shareOf_24 : decode cX9_shareOf 24 = .ok (.iconst 1, 1) := by decide +kernel
theorem dX9_shareOf_25 : decode cX9_shareOf 25 = .ok (.iand, 1) := by decide +kernel
theorem dX9_shareOf_26 : decode cX9_shareOf 26 = .ok (.ifCond .eq 18, 3) := by decide +kernel
theorem dX9_shareOf_29 : decode cX9_shareOf 29 = .ok (.iload_n 3, 1) := by decide +kernel
theorem dX9_shareOf_30 : decode cX9_shareOf 30 = .ok (.aload_n 0, 1) := by decide +kernel
theorem dX9_shareOf_31 : decode cX9_shareOf 31 = .ok (.getfield 49, 3) := by decide +kernel
theorem dX9_shareOf_34 : decode cX9_shareOf 34 = .ok (.iload_n 1, 1) := by decide +kernel
theorem dX9_shareOf_35 : decode cX9_shareOf 35 = .ok (.bipush 10, 2) := by decide +kernel
theorem dX9_shareOf_37 : decode cX9_shareOf 37 = .ok (.imul, 1) := by decide +kernel
theorem dX9_shareOf_38 : decode cX9_shareOf 38 = .ok (.iload 4, 2) := by decide +kernel
theorem dX9_shareOf_40 : decode cX9_shareOf 40 = .ok (.iadd, 1) := by decide +kernel
theorem dX9_shareOf_41 : decode cX9_shareOf 41 = .ok (.iaload, 1) := by decide +kernel
theorem dX9_shareOf_42 : decode cX9_shareOf 42 = .ok (.iadd, 1) := by decide +kernel
theorem dX9_shareOf_43 : decode cX9_shareOf 43 = .ok (.istore_n 3, 1) := by decide +kernel
theorem dX9_shareOf_44 : decode cX9_shareOf 44 = .ok (.iinc 4 1, 3) := by decide +kernel
theorem dX9_shareOf_47 : decode cX9_shareOf 47 = .ok (.goto (-42), 3) := by decide +kernel
theorem dX9_shareOf_50 : decode cX9_shareOf 50 = .ok (.iload_n 3, 1) := by decide +kernel
theorem dX9_shareOf_51 : decode cX9_shareOf 51 = .ok (.ireturn, 1) := by decide +kernel
theorem dX9_worst_0 : decode cX9_worst 0 = .ok (.bipush (-5), 2) := by decide +kernel
theorem dX9_worst_2 : decode cX9_worst 2 = .ok (.istore_n 1, 1) := by decide +kernel
theorem dX9_worst_3 : decode cX9_worst 3 = .ok (.iconst (-1), 1) := by decide +kernel
theorem dX9_worst_4 : decode cX9_worst 4 = .ok (.istore_n 2, 1) := by decide +kernel
theorem dX9_worst_5 : decode cX9_worst 5 = .ok (.iconst 0, 1) := by decide +kernel
theorem dX9_worst_6 : decode cX9_worst 6 = .ok (.istore_n 3, 1) := by decide +kernel
theorem dX9_worst_7 : decode cX9_worst 7 = .ok (.iload_n 3, 1) := by decide +kernel
theorem dX9_worst_8 : decode cX9_worst 8 = .ok (.aload_n 0, 1) := by decide +kernel
theorem dX9_worst_9 : decode cX9_worst 9 = .ok (.getfield 14, 3) := by decide +kernel
theorem dX9_worst_12 : decode cX9_worst 12 = .ok (.getfield 119, 3) := by decide +kernel
theorem dX9_worst_15 : decode cX9_worst 15 = .ok (.getfield 123, 3) := by decide +kernel
theorem dX9_worst_18 : decode cX9_worst 18 = .ok (.if_icmp .ge 27, 3) := by decide +kernel
theorem dX9_worst_21 : decode cX9_worst 21 = .ok (.aload_n 0, 1) := by decide +kernel
theorem dX9_worst_22 : decode cX9_worst 22 = .ok (.iload_n 3, 1) := by decide +kernel
theorem dX9_worst_23 : decode cX9_worst 23 = .ok (.invokevirtual 250, 3) := by decide +kernel
theorem dX9_worst_26 : decode cX9_worst 26 = .ok (.istore 4, 2) := by decide +kernel
theorem dX9_worst_28 : decode cX9_worst 28 = .ok (.iload 4, 2) := by decide +kernel
theorem dX9_worst_30 : decode cX9_worst 30 = .ok (.iload_n 2, 1) := by decide +kernel
theorem dX9_worst_31 : decode cX9_worst 31 = .ok (.if_icmp .le 8, 3) := by decide +kernel
theorem dX9_worst_34 : decode cX9_worst 34 = .ok (.iload 4, 2) := by decide +kernel
theorem dX9_worst_36 : decode cX9_worst 36 = .ok (.istore_n 2, 1) := by decide +kernel
theorem dX9_worst_37 : decode cX9_worst 37 = .ok (.iload_n 3, 1) := by decide +kernel
theorem dX9_worst_38 : decode cX9_worst 38 = .ok (.istore_n 1, 1) := by decide +kernel
theorem dX9_worst_39 : decode cX9_worst 39 = .ok (.iinc 3 1, 3) := by decide +kernel
theorem dX9_worst_42 : decode cX9_worst 42 = .ok (.goto (-35), 3) := by decide +kernel
theorem dX9_worst_45 : decode cX9_worst 45 = .ok (.iload_n 1, 1) := by decide +kernel
theorem dX9_worst_46 : decode cX9_worst 46 = .ok (.ireturn, 1) := by decide +kernel
theorem dX9_harmOf_0 : decode cX9_harmOf 0 = .ok (.aload_n 0, 1) := by decide +kernel
theorem dX9_harmOf_1 : decode cX9_harmOf 1 = .ok (.getfield 14, 3) := by decide +kernel
theorem dX9_harmOf_4 : decode cX9_harmOf 4 = .ok (.getfield 119, 3) := by decide +kernel
theorem dX9_harmOf_7 : decode cX9_harmOf 7 = .ok (.iload_n 1, 1) := by decide +kernel
theorem dX9_harmOf_8 : decode cX9_harmOf 8 = .ok (.invokevirtual 156, 3) := by decide +kernel
theorem dX9_harmOf_11 : decode cX9_harmOf 11 = .ok (.ifCond .ne 5, 3) := by decide +kernel
theorem dX9_harmOf_14 : decode cX9_harmOf 14 = .ok (.iconst 0, 1) := by decide +kernel
theorem dX9_harmOf_15 : decode cX9_harmOf 15 = .ok (.ireturn, 1) := by decide +kernel
theorem dX9_harmOf_16 : decode cX9_harmOf 16 = .ok (.iconst 0, 1) := by decide +kernel
theorem dX9_harmOf_17 : decode cX9_harmOf 17 = .ok (.istore_n 2, 1) := by decide +kernel
theorem dX9_harmOf_18 : decode cX9_harmOf 18 = .ok (.iconst 0, 1) := by decide +kernel
theorem dX9_harmOf_19 : decode cX9_harmOf 19 = .ok (.istore_n 3, 1) := by decide +kernel
theorem dX9_harmOf_20 : decode cX9_harmOf 20 = .ok (.iload_n 3, 1) := by decide +kernel
theorem dX9_harmOf_21 : decode cX9_harmOf 21 = .ok (.bipush 40, 2) := by decide +kernel
theorem dX9_harmOf_23 : decode cX9_harmOf 23 = .ok (.if_icmp .ge 21, 3) := by decide +kernel
theorem dX9_harmOf_26 : decode cX9_harmOf 26 = .ok (.iload_n 2, 1) := by decide +kernel
theorem dX9_harmOf_27 : decode cX9_harmOf 27 = .ok (.aload_n 0, 1) := by decide +kernel
theorem dX9_harmOf_28 : decode cX9_harmOf 28 = .ok (.getfield 35, 3) := by decide +kernel
theorem dX9_harmOf_31 : decode cX9_harmOf 31 = .ok (.iload_n 1, 1) := by decide +kernel
theorem dX9_harmOf_32 : decode cX9_harmOf 32 = .ok (.iload_n 3, 1) := by decide +kernel
theorem dX9_harmOf_33 : decode cX9_harmOf 33 = .ok (.invokevirtual 159, 3) := by decide +kernel
theorem dX9_harmOf_36 : decode cX9_harmOf 36 = .ok (.iadd, 1) := by decide +kernel
theorem dX9_harmOf_37 : decode cX9_harmOf 37 = .ok (.istore_n 2, 1) := by decide +kernel
theorem dX9_harmOf_38 : decode cX9_harmOf 38 = .ok (.iinc 3 1, 3) := by decide +kernel
theorem dX9_harmOf_41 : decode cX9_harmOf 41 = .ok (.goto (-21), 3) := by decide +kernel
theorem dX9_harmOf_44 : decode cX9_harmOf 44 = .ok (.iload_n 2, 1) := by decide +kernel
theorem dX9_harmOf_45 : decode cX9_harmOf 45 = .ok (.aload_n 0, 1) := by decide +kernel
theorem dX9_harmOf_46 : decode cX9_harmOf 46 = .ok (.getfield 14, 3) := by decide +kernel
theorem dX9_harmOf_49 : decode cX9_harmOf 49 = .ok (.getfield 119, 3) := by decide +kernel
theorem dX9_harmOf_52 : decode cX9_harmOf 52 = .ok (.getfield 143, 3) := by decide +kernel
theorem dX9_harmOf_55 : decode cX9_harmOf 55 = .ok (.iload_n 1, 1) := by decide +kernel
theorem dX9_harmOf_56 : decode cX9_harmOf 56 = .ok (.iaload, 1) := by decide +kernel
theorem dX9_harmOf_57 : decode cX9_harmOf 57 = .ok (.imul, 1) := by decide +kernel
theorem dX9_harmOf_58 : decode cX9_harmOf 58 = .ok (.ireturn, 1) := by decide +kernel
theorem dX9_mostAlike_0 : decode cX9_mostAlike 0 = .ok (.iconst 0, 1) := by decide +kernel
theorem dX9_mostAlike_1 : decode cX9_mostAlike 1 = .ok (.istore_n 3, 1) := by decide +kernel
theorem dX9_mostAlike_2 : decode cX9_mostAlike 2 = .ok (.iload_n 3, 1) := by decide +kernel
theorem dX9_mostAlike_3 : decode cX9_mostAlike 3 = .ok (.aload_n 0, 1) := by decide +kernel
theorem dX9_mostAlike_4 : decode cX9_mostAlike 4 = .ok (.getfield 14, 3) := by decide +kernel
theorem dX9_mostAlike_7 : decode cX9_mostAlike 7 = .ok (.getfield 119, 3) := by decide +kernel
theorem dX9_mostAlike_10 : decode cX9_mostAlike 10 = .ok (.getfield 123, 3) := by decide +kernel
theorem dX9_mostAlike_13 : decode cX9_mostAlike 13 = .ok (.if_icmp .ge 22, 3) := by decide +kernel
theorem dX9_mostAlike_16 : decode cX9_mostAlike 16 = .ok (.aload_n 0, 1) := by decide +kernel
theorem dX9_mostAlike_17 : decode cX9_mostAlike 17 = .ok (.getfield 49, 3) := by decide +kernel
theorem dX9_mostAlike_20 : decode cX9_mostAlike 20 = .ok (.iload_n 3, 1) := by decide +kernel
theorem dX9_mostAlike_21 : decode cX9_mostAlike 21 = .ok (.aload_n 0, 1) := by decide +kernel
theorem dX9_mostAlike_22 : decode cX9_mostAlike 22 = .ok (.iload_n 3, 1) := by decide +kernel
theorem dX9_mostAlike_23 : decode cX9_mostAlike 23 = .ok (.iload_n 1, 1) := by decide +kernel
theorem dX9_mostAlike_24 : decode cX9_mostAlike 24 = .ok (.iload_n 2, 1) := by decide +kernel
theorem dX9_mostAlike_25 : decode cX9_mostAlike 25 = .ok (.invokevirtual 276, 3) := by decide +kernel
theorem dX9_mostAlike_28 : decode cX9_mostAlike 28 = .ok (.iastore, 1) := by decide +kernel
theorem dX9_mostAlike_29 : decode cX9_mostAlike 29 = .ok (.iinc 3 1, 3) := by decide +kernel
theorem dX9_mostAlike_32 : decode cX9_mostAlike 32 = .ok (.goto (-30), 3) := by decide +kernel
theorem dX9_mostAlike_35 : decode cX9_mostAlike 35 = .ok (.iconst 0, 1) := by decide +kernel
theorem dX9_mostAlike_36 : decode cX9_mostAlike 36 = .ok (.istore_n 3, 1) := by decide +kernel
theorem dX9_mostAlike_37 : decode cX9_mostAlike 37 = .ok (.iconst 0, 1) := by decide +kernel
theorem dX9_mostAlike_38 : decode cX9_mostAlike 38 = .ok (.istore 4, 2) := by decide +kernel
theorem dX9_mostAlike_40 : decode cX9_mostAlike 40 = .ok (.iload 4, 2) := by decide +kernel
theorem dX9_mostAlike_42 : decode cX9_mostAlike 42 = .ok (.aload_n 0, 1) := by decide +kernel
theorem dX9_mostAlike_43 : decode cX9_mostAlike 43 = .ok (.getfield 14, 3) := by decide +kernel
theorem dX9_mostAlike_46 : decode cX9_mostAlike 46 = .ok (.getfield 119, 3) := by decide +kernel
theorem dX9_mostAlike_49 : decode cX9_mostAlike 49 = .ok (.getfield 123, 3) := by decide +kernel
theorem dX9_mostAlike_52 : decode cX9_mostAlike 52 = .ok (.if_icmp .ge 64, 3) := by decide +kernel
theorem dX9_mostAlike_55 : decode cX9_mostAlike 55 = .ok (.iconst 0, 1) := by decide +kernel
theorem dX9_mostAlike_56 : decode cX9_mostAlike 56 = .ok (.istore 5, 2) := by decide +kernel
theorem dX9_mostAlike_58 : decode cX9_mostAlike 58 = .ok (.iload 4, 2) := by decide +kernel
theorem dX9_mostAlike_60 : decode cX9_mostAlike 60 = .ok (.istore 6, 2) := by decide +kernel
theorem dX9_mostAlike_62 : decode cX9_mostAlike 62 = .ok (.iload 6, 2) := by decide +kernel
theorem dX9_mostAlike_64 : decode cX9_mostAlike 64 = .ok (.aload_n 0, 1) := by decide +kernel
theorem dX9_mostAlike_65 : decode cX9_mostAlike 65 = .ok (.getfield 14, 3) := by decide +kernel
theorem dX9_mostAlike_68 : decode cX9_mostAlike 68 = .ok (.getfield 119, 3) := by decide +kernel
theorem dX9_mostAlike_71 : decode cX9_mostAlike 71 = .ok (.getfield 123, 3) := by decide +kernel
theorem dX9_mostAlike_74 : decode cX9_mostAlike 74 = .ok (.if_icmp .ge 29, 3) := by decide +kernel
theorem dX9_mostAlike_77 : decode cX9_mostAlike 77 = .ok (.aload_n 0, 1) := by decide +kernel
theorem dX9_mostAlike_78 : decode cX9_mostAlike 78 = .ok (.getfield 49, 3) := by decide +kernel
theorem dX9_mostAlike_81 : decode cX9_mostAlike 81 = .ok (.iload 4, 2) := by decide +kernel
theorem dX9_mostAlike_83 : decode cX9_mostAlike 83 = .ok (.iaload, 1) := by decide +kernel
theorem dX9_mostAlike_84 : decode cX9_mostAlike 84 = .ok (.aload_n 0, 1) := by decide +kernel
theorem dX9_mostAlike_85 : decode cX9_mostAlike 85 = .ok (.getfield 49, 3) := by decide +kernel
theorem dX9_mostAlike_88 : decode cX9_mostAlike 88 = .ok (.iload 6, 2) := by decide +kernel
theorem dX9_mostAlike_90 : decode cX9_mostAlike 90 = .ok (.iaload, 1) := by decide +kernel
theorem dX9_mostAlike_91 : decode cX9_mostAlike 91 = .ok (.if_icmp .ne 6, 3) := by decide +kernel
theorem dX9_mostAlike_94 : decode cX9_mostAlike 94 = .ok (.iinc 5 1, 3) := by decide +kernel
theorem dX9_mostAlike_97 : decode cX9_mostAlike 97 = .ok (.iinc 6 1, 3) := by decide +kernel
theorem dX9_mostAlike_100 : decode cX9_mostAlike 100 = .ok (.goto (-38), 3) := by decide +kernel
theorem dX9_mostAlike_103 : decode cX9_mostAlike 103 = .ok (.iload_n 3, 1) := by decide +kernel
theorem dX9_mostAlike_104 : decode cX9_mostAlike 104 = .ok (.iload 5, 2) := by decide +kernel
theorem dX9_mostAlike_106 : decode cX9_mostAlike 106 = .ok (.invokestatic 221, 3) := by decide +kernel
theorem dX9_mostAlike_109 : decode cX9_mostAlike 109 = .ok (.istore_n 3, 1) := by decide +kernel
theorem dX9_mostAlike_110 : decode cX9_mostAlike 110 = .ok (.iinc 4 1, 3) := by decide +kernel
theorem dX9_mostAlike_113 : decode cX9_mostAlike 113 = .ok (.goto (-73), 3) := by decide +kernel
theorem dX9_mostAlike_116 : decode cX9_mostAlike 116 = .ok (.iload_n 3, 1) := by decide +kernel
theorem dX9_mostAlike_117 : decode cX9_mostAlike 117 = .ok (.ireturn, 1) := by decide +kernel
theorem dX9_rowsHeard_0 : decode cX9_rowsHeard 0 = .ok (.iconst 0, 1) := by decide +kernel
theorem dX9_rowsHeard_1 : decode cX9_rowsHeard 1 = .ok (.istore_n 1, 1) := by decide +kernel
theorem dX9_rowsHeard_2 : decode cX9_rowsHeard 2 = .ok (.iconst 0, 1) := by decide +kernel
theorem dX9_rowsHeard_3 : decode cX9_rowsHeard 3 = .ok (.istore_n 2, 1) := by decide +kernel
theorem dX9_rowsHeard_4 : decode cX9_rowsHeard 4 = .ok (.iload_n 2, 1) := by decide +kernel
theorem dX9_rowsHeard_5 : decode cX9_rowsHeard 5 = .ok (.aload_n 0, 1) := by decide +kernel
theorem dX9_rowsHeard_6 : decode cX9_rowsHeard 6 = .ok (.getfield 14, 3) := by decide +kernel
theorem dX9_rowsHeard_9 : decode cX9_rowsHeard 9 = .ok (.getfield 175, 3) := by decide +kernel
theorem dX9_rowsHeard_12 : decode cX9_rowsHeard 12 = .ok (.getfield 179, 3) := by decide +kernel
theorem dX9_rowsHeard_15 : decode cX9_rowsHeard 15 = .ok (.if_icmp .ge 55, 3) := by decide +kernel
theorem dX9_rowsHeard_18 : decode cX9_rowsHeard 18 = .ok (.aload_n 0, 1) := by decide +kernel
theorem dX9_rowsHeard_19 : decode cX9_rowsHeard 19 = .ok (.aload_n 0, 1) := by decide +kernel
theorem dX9_rowsHeard_20 : decode cX9_rowsHeard 20 = .ok (.getfield 14, 3) := by decide +kernel
theorem dX9_rowsHeard_23 : decode cX9_rowsHeard 23 = .ok (.getfield 175, 3) := by decide +kernel
theorem dX9_rowsHeard_26 : decode cX9_rowsHeard 26 = .ok (.getfield 279, 3) := by decide +kernel
theorem dX9_rowsHeard_29 : decode cX9_rowsHeard 29 = .ok (.iload_n 2, 1) := by decide +kernel
theorem dX9_rowsHeard_30 : decode cX9_rowsHeard 30 = .ok (.iaload, 1) := by decide +kernel
theorem dX9_rowsHeard_31 : decode cX9_rowsHeard 31 = .ok (.aload_n 0, 1) := by decide +kernel
theorem dX9_rowsHeard_32 : decode cX9_rowsHeard 32 = .ok (.getfield 14, 3) := by decide +kernel
theorem dX9_rowsHeard_35 : decode cX9_rowsHeard 35 = .ok (.getfield 175, 3) := by decide +kernel
theorem dX9_rowsHeard_38 : decode cX9_rowsHeard 38 = .ok (.getfield 280, 3) := by decide +kernel
theorem dX9_rowsHeard_41 : decode cX9_rowsHeard 41 = .ok (.iload_n 2, 1) := by decide +kernel
theorem dX9_rowsHeard_42 : decode cX9_rowsHeard 42 = .ok (.iaload, 1) := by decide +kernel
theorem dX9_rowsHeard_43 : decode cX9_rowsHeard 43 = .ok (.invokevirtual 169, 3) := by decide +kernel
theorem dX9_rowsHeard_46 : decode cX9_rowsHeard 46 = .ok (.aload_n 0, 1) := by decide +kernel
theorem dX9_rowsHeard_47 : decode cX9_rowsHeard 47 = .ok (.getfield 14, 3) := by decide +kernel
theorem dX9_rowsHeard_50 : decode cX9_rowsHeard 50 = .ok (.getfield 175, 3) := by decide +kernel
theorem dX9_rowsHeard_53 : decode cX9_rowsHeard 53 = .ok (.getfield 283, 3) := by decide +kernel
theorem dX9_rowsHeard_56 : decode cX9_rowsHeard 56 = .ok (.iload_n 2, 1) := by decide +kernel
theorem dX9_rowsHeard_57 : decode cX9_rowsHeard 57 = .ok (.iaload, 1) := by decide +kernel
theorem dX9_rowsHeard_58 : decode cX9_rowsHeard 58 = .ok (.if_icmp .ne 6, 3) := by decide +kernel
theorem dX9_rowsHeard_61 : decode cX9_rowsHeard 61 = .ok (.iinc 1 1, 3) := by decide +kernel
theorem dX9_rowsHeard_64 : decode cX9_rowsHeard 64 = .ok (.iinc 2 1, 3) := by decide +kernel
theorem dX9_rowsHeard_67 : decode cX9_rowsHeard 67 = .ok (.goto (-63), 3) := by decide +kernel
theorem dX9_rowsHeard_70 : decode cX9_rowsHeard 70 = .ok (.iload_n 1, 1) := by decide +kernel
theorem dX9_rowsHeard_71 : decode cX9_rowsHeard 71 = .ok (.ireturn, 1) := by decide +kernel
theorem dX10_init_0 : decode cX10_init 0 = .ok (.aload_n 0, 1) := by decide +kernel
theorem dX10_init_1 : decode cX10_init 1 = .ok (.invokespecial 3, 3) := by decide +kernel
theorem dX10_init_4 : decode cX10_init 4 = .ok (.aload_n 0, 1) := by decide +kernel
theorem dX10_init_5 : decode cX10_init 5 = .ok (.sipush 1066, 3) := by decide +kernel
theorem dX10_init_8 : decode cX10_init 8 = .ok (.newarray .int, 2) := by decide +kernel
theorem dX10_init_10 : decode cX10_init 10 = .ok (.putfield 9, 3) := by decide +kernel
theorem dX10_init_13 : decode cX10_init 13 = .ok (.aload_n 0, 1) := by decide +kernel
theorem dX10_init_14 : decode cX10_init 14 = .ok (.sipush 1066, 3) := by decide +kernel
theorem dX10_init_17 : decode cX10_init 17 = .ok (.newarray .int, 2) := by decide +kernel
theorem dX10_init_19 : decode cX10_init 19 = .ok (.putfield 15, 3) := by decide +kernel
theorem dX10_init_22 : decode cX10_init 22 = .ok (.aload_n 0, 1) := by decide +kernel
theorem dX10_init_23 : decode cX10_init 23 = .ok (.iconst 5, 1) := by decide +kernel
theorem dX10_init_24 : decode cX10_init 24 = .ok (.newarray .int, 2) := by decide +kernel
theorem dX10_init_26 : decode cX10_init 26 = .ok (.putfield 18, 3) := by decide +kernel
theorem dX10_init_29 : decode cX10_init 29 = .ok (.aload_n 0, 1) := by decide +kernel
theorem dX10_init_30 : decode cX10_init 30 = .ok (.bipush 64, 2) := by decide +kernel
theorem dX10_init_32 : decode cX10_init 32 = .ok (.newarray .boolean, 2) := by decide +kernel
theorem dX10_init_34 : decode cX10_init 34 = .ok (.putfield 21, 3) := by decide +kernel
theorem dX10_init_37 : decode cX10_init 37 = .ok (.aload_n 0, 1) := by decide +kernel
theorem dX10_init_38 : decode cX10_init 38 = .ok (.bipush 40, 2) := by decide +kernel
theorem dX10_init_40 : decode cX10_init 40 = .ok (.newarray .int, 2) := by decide +kernel
theorem dX10_init_42 : decode cX10_init 42 = .ok (.putfield 25, 3) := by decide +kernel
theorem dX10_init_45 : decode cX10_init 45 = .ok (.aload_n 0, 1) := by decide +kernel
theorem dX10_init_46 : decode cX10_init 46 = .ok (.sipush 400, 3) := by decide +kernel
theorem dX10_init_49 : decode cX10_init 49 = .ok (.newarray .int, 2) := by decide +kernel
theorem dX10_init_51 : decode cX10_init 51 = .ok (.putfield 28, 3) := by decide +kernel
theorem dX10_init_54 : decode cX10_init 54 = .ok (.aload_n 0, 1) := by decide +kernel
theorem dX10_init_55 : decode cX10_init 55 = .ok (.bipush 10, 2) := by decide +kernel
theorem dX10_init_57 : decode cX10_init 57 = .ok (.newarray .int, 2) := by decide +kernel
theorem dX10_init_59 : decode cX10_init 59 = .ok (.putfield 31, 3) := by decide +kernel
theorem dX10_init_62 : decode cX10_init 62 = .ok (.aload_n 0, 1) := by decide +kernel
theorem dX10_init_63 : decode cX10_init 63 = .ok (.bipush 10, 2) := by decide +kernel
theorem dX10_init_65 : decode cX10_init 65 = .ok (.newarray .int, 2) := by decide +kernel
theorem dX10_init_67 : decode cX10_init 67 = .ok (.putfield 34, 3) := by decide +kernel
theorem dX10_init_70 : decode cX10_init 70 = .ok (.aload_n 0, 1) := by decide +kernel
theorem dX10_init_71 : decode cX10_init 71 = .ok (.bipush 20, 2) := by decide +kernel
theorem dX10_init_73 : decode cX10_init 73 = .ok (.newarray .int, 2) := by decide +kernel
theorem dX10_init_75 : decode cX10_init 75 = .ok (.putfield 37, 3) := by decide +kernel
theorem dX10_init_78 : decode cX10_init 78 = .ok (.aload_n 0, 1) := by decide +kernel
theorem dX10_init_79 : decode cX10_init 79 = .ok (.getfield 9, 3) := by decide +kernel
theorem dX10_init_82 : decode cX10_init 82 = .ok (.iconst 4, 1) := by decide +kernel
theorem dX10_init_83 : decode cX10_init 83 = .ok (.iconst (-1), 1) := by decide +kernel
theorem dX10_init_84 : decode cX10_init 84 = .ok (.iastore, 1) := by decide +kernel
theorem dX10_init_85 : decode cX10_init 85 = .ok (.return_, 1) := by decide +kernel
theorem dX10_in_0 : decode cX10_in 0 = .ok (.iload_n 0, 1) := by decide +kernel
theorem dX10_in_1 : decode cX10_in 1 = .ok (.iload_n 1, 1) := by decide +kernel
theorem dX10_in_2 : decode cX10_in 2 = .ok (.if_icmp .lt 12, 3) := by decide +kernel
theorem dX10_in_5 : decode cX10_in 5 = .ok (.iload_n 0, 1) := by decide +kernel
theorem dX10_in_6 : decode cX10_in 6 = .ok (.iload_n 2, 1) := by decide +kernel
theorem dX10_in_7 : decode cX10_in 7 = .ok (.if_icmp .gt 7, 3) := by decide +kernel
theorem dX10_in_10 : decode cX10_in 10 = .ok (.iconst 1, 1) := by decide +kernel
theorem dX10_in_11 : decode cX10_in 11 = .ok (.goto 4, 3) := by decide +kernel
theorem dX10_in_14 : decode cX10_in 14 = .ok (.iconst 0, 1) := by decide +kernel
theorem dX10_in_15 : decode cX10_in 15 = .ok (.ireturn, 1) := by decide +kernel
theorem dX10_size_0 : decode cX10_size 0 = .ok (.iload_n 0, 1) := by decide +kernel
theorem dX10_size_1 : decode cX10_size 1 = .ok (.ifCond .ge 8, 3) := by decide +kernel
theorem dX10_size_4 : decode cX10_size 4 = .ok (.iload_n 0, 1) := by decide +kernel
theorem dX10_size_5 : decode cX10_size 5 = .ok (.ineg, 1) := by decide +kernel
theorem dX10_size_6 : decode cX10_size 6 = .ok (.goto 4, 3) := by decide +kernel
theorem dX10_size_9 : decode cX10_size 9 = .ok (.iload_n 0, 1) := by decide +kernel
theorem dX10_size_10 : decode cX10_size 10 = .ok (.ireturn, 1) := by decide +kernel
theorem dX10_isNoise_0 : decode cX10_isNoise 0 = .ok (.iload_n 1, 1) := by decide +kernel
theorem dX10_isNoise_1 : decode cX10_isNoise 1 = .ok (.iconst 0, 1) := by decide +kernel
theorem dX10_isNoise_2 : decode cX10_isNoise 2 = .ok (.aload_n 0, 1) := by decide +kernel
theorem dX10_isNoise_3 : decode cX10_isNoise 3 = .ok (.getfield 9, 3) := by decide +kernel
theorem dX10_isNoise_6 : decode cX10_isNoise 6 = .ok (.iconst 0, 1) := by decide +kernel
theorem dX10_isNoise_7 : decode cX10_isNoise 7 = .ok (.iaload, 1) := by decide +kernel
theorem dX10_isNoise_8 : decode cX10_isNoise 8 = .ok (.iconst 1, 1) := by decide +kernel
theorem dX10_isNoise_9 : decode cX10_isNoise 9 = .ok (.isub, 1) := by decide +kernel
theorem dX10_isNoise_10 : decode cX10_isNoise 10 = .ok (.invokestatic 44, 3) := by decide +kernel
theorem dX10_isNoise_13 : decode cX10_isNoise 13 = .ok (.ireturn, 1) := by decide +kernel
theorem dX10_isPlace_0 : decode cX10_isPlace 0 = .ok (.iload_n 0, 1) := by decide +kernel
theorem dX10_isPlace_1 : decode cX10_isPlace 1 = .ok (.iconst 0, 1) := by decide +kernel
theorem dX10_isPlace_2 : decode cX10_isPlace 2 = .ok (.bipush 9, 2) := by decide +kernel
theorem dX10_isPlace_4 : decode cX10_isPlace 4 = .ok (.invokestatic 44, 3) := by decide +kernel
theorem dX10_isPlace_7 : decode cX10_isPlace 7 = .ok (.ireturn, 1) := by decide +kernel
theorem dX10_isMinute_0 : decode cX10_isMinute 0 = .ok (.iload_n 0, 1) := by decide +kernel
theorem dX10_isMinute_1 : decode cX10_isMinute 1 = .ok (.iconst 0, 1) := by decide +kernel
theorem dX10_isMinute_2 : decode cX10_isMinute 2 = .ok (.bipush 39, 2) := by decide +kernel
theorem dX10_isMinute_4 : decode cX10_isMinute 4 = .ok (.invokestatic 44, 3) := by decide +kernel
theorem dX10_isMinute_7 : decode cX10_isMinute 7 = .ok (.ireturn, 1) := by decide +kernel
theorem dX10_day_0 : decode cX10_day 0 = .ok (.iload_n 1, 1) := by decide +kernel
theorem dX10_day_1 : decode cX10_day 1 = .ok (.iconst 0, 1) := by decide +kernel
theorem dX10_day_2 : decode cX10_day 2 = .ok (.iconst 2, 1) := by decide +kernel
theorem dX10_day_3 : decode cX10_day 3 = .ok (.invokestatic 44, 3) := by decide +kernel
theorem dX10_day_6 : decode cX10_day 6 = .ok (.ifCond .ne 5, 3) := by decide +kernel
theorem dX10_day_9 : decode cX10_day 9 = .ok (.iconst (-1), 1) := by decide +kernel
theorem dX10_day_10 : decode cX10_day 10 = .ok (.ireturn, 1) := by decide +kernel
theorem dX10_day_11 : decode cX10_day 11 = .ok (.lload_n 2, 1) := by decide +kernel
theorem dX10_day_12 : decode cX10_day 12 = .ok (.lconst 0, 1) := by decide +kernel
theorem dX10_day_13 : decode cX10_day 13 = .ok (.lcmp, 1) := by decide +kernel
theorem dX10_day_14 : decode cX10_day 14 = .ok (.ifCond .lt 11, 3) := by decide +kernel
theorem dX10_day_17 : decode cX10_day 17 = .ok (.lload_n 2, 1) := by decide +kernel
theorem dX10_day_18 : decode cX10_day 18 = .ok (.ldc2_w 48, 3) := by decide +kernel
theorem dX10_day_21 : decode cX10_day 21 = .ok (.lcmp, 1) := by decide +kernel
theorem dX10_day_22 : decode cX10_day 22 = .ok (.ifCond .lt 6, 3) := by decide +kernel
theorem dX10_day_25 : decode cX10_day 25 = .ok (.bipush (-2), 2) := by decide +kernel
theorem dX10_day_27 : decode cX10_day 27 = .ok (.ireturn, 1) := by decide +kernel
theorem dX10_day_28 : decode cX10_day 28 = .ok (.iconst 0, 1) := by decide +kernel
theorem dX10_day_29 : decode cX10_day 29 = .ok (.istore 4, 2) := by decide +kernel
theorem dX10_day_31 : decode cX10_day 31 = .ok (.iconst 0, 1) := by decide +kernel
theorem dX10_day_32 : decode cX10_day 32 = .ok (.istore 5, 2) := by decide +kernel
theorem dX10_day_34 : decode cX10_day 34 = .ok (.iload 5, 2) := by decide +kernel
theorem dX10_day_36 : decode cX10_day 36 = .ok (.bipush 40, 2) := by decide +kernel
theorem dX10_day_38 : decode cX10_day 38 = .ok (.if_icmp .ge 48, 3) := by decide +kernel
theorem dX10_day_41 : decode cX10_day 41 = .ok (.sipush 130, 3) := by decide +kernel
theorem dX10_day_44 : decode cX10_day 44 = .ok (.bipush 40, 2) := by decide +kernel
theorem dX10_day_46 : decode cX10_day 46 = .ok (.iload_n 1, 1) := by decide +kernel
theorem dX10_day_47 : decode cX10_day 47 = .ok (.imul, 1) := by decide +kernel
theorem dX10_day_48 : decode cX10_day 48 = .ok (.iadd, 1) := by decide +kernel
theorem dX10_day_49 : decode cX10_day 49 = .ok (.iload 5, 2) := by decide +kernel
theorem dX10_day_51 : decode cX10_day 51 = .ok (.iadd, 1) := by decide +kernel
theorem dX10_day_52 : decode cX10_day 52 = .ok (.istore 6, 2) := by decide +kernel
theorem dX10_day_54 : decode cX10_day 54 = .ok (.iload 4, 2) := by decide +kernel
theorem dX10_day_56 : decode cX10_day 56 = .ok (.aload_n 0, 1) := by decide +kernel
theorem dX10_day_57 : decode cX10_day 57 = .ok (.getfield 9, 3) := by decide +kernel
theorem dX10_day_60 : decode cX10_day 60 = .ok (.iload 6, 2) := by decide +kernel
theorem dX10_day_62 : decode cX10_day 62 = .ok (.iaload, 1) := by decide +kernel
theorem dX10_day_63 : decode cX10_day 63 = .ok (.iadd, 1) := by decide +kernel
theorem dX10_day_64 : decode cX10_day 64 = .ok (.istore 4, 2) := by decide +kernel
theorem dX10_day_66 : decode cX10_day 66 = .ok (.aload_n 0, 1) := by decide +kernel
theorem dX10_day_67 : decode cX10_day 67 = .ok (.getfield 9, 3) := by decide +kernel
theorem dX10_day_70 : decode cX10_day 70 = .ok (.iload 6, 2) := by decide +kernel
theorem dX10_day_72 : decode cX10_day 72 = .ok (.lload_n 2, 1) := by decide +kernel
theorem dX10_day_73 : decode cX10_day 73 = .ok (.iload 5, 2) := by decide +kernel
theorem dX10_day_75 : decode cX10_day 75 = .ok (.lshr, 1) := by decide +kernel
theorem dX10_day_76 : decode cX10_day 76 = .ok (.lconst 1, 1) := by decide +kernel
theorem dX10_day_77 : decode cX10_day 77 = .ok (.land, 1) := by decide +kernel
theorem dX10_day_78 : decode cX10_day 78 = .ok (.l2i, 1) := by decide +kernel
theorem dX10_day_79 : decode cX10_day 79 = .ok (.iastore, 1) := by decide +kernel
theorem dX10_day_80 : decode cX10_day 80 = .ok (.iinc 5 1, 3) := by decide +kernel
theorem dX10_day_83 : decode cX10_day 83 = .ok (.goto (-49), 3) := by decide +kernel
theorem dX10_day_86 : decode cX10_day 86 = .ok (.iload 4, 2) := by decide +kernel
theorem dX10_day_88 : decode cX10_day 88 = .ok (.ireturn, 1) := by decide +kernel
theorem dX10_feed_0 : decode cX10_feed 0 = .ok (.iload_n 3, 1) := by decide +kernel
theorem dX10_feed_1 : decode cX10_feed 1 = .ok (.iconst 1, 1) := by decide +kernel
theorem dX10_feed_2 : decode cX10_feed 2 = .ok (.bipush 8, 2) := by decide +kernel
theorem dX10_feed_4 : decode cX10_feed 4 = .ok (.invokestatic 44, 3) := by decide +kernel
theorem dX10_feed_7 : decode cX10_feed 7 = .ok (.ifCond .ne 6, 3) := by decide +kernel
theorem dX10_feed_10 : decode cX10_feed 10 = .ok (.bipush (-2), 2) := by decide +kernel
theorem dX10_feed_12 : decode cX10_feed 12 = .ok (.ireturn, 1) := by decide +kernel
theorem dX10_feed_13 : decode cX10_feed 13 = .ok (.aload_n 0, 1) := by decide +kernel
theorem dX10_feed_14 : decode cX10_feed 14 = .ok (.getfield 9, 3) := by decide +kernel
theorem dX10_feed_17 : decode cX10_feed 17 = .ok (.iconst 3, 1) := by decide +kernel
theorem dX10_feed_18 : decode cX10_feed 18 = .ok (.iaload, 1) := by decide +kernel
theorem dX10_feed_19 : decode cX10_feed 19 = .ok (.iload_n 3, 1) := by decide +kernel
theorem dX10_feed_20 : decode cX10_feed 20 = .ok (.iadd, 1) := by decide +kernel
theorem dX10_feed_21 : decode cX10_feed 21 = .ok (.bipush 120, 2) := by decide +kernel
theorem dX10_feed_23 : decode cX10_feed 23 = .ok (.if_icmp .le 6, 3) := by decide +kernel
theorem dX10_feed_26 : decode cX10_feed 26 = .ok (.bipush (-4), 2) := by decide +kernel
theorem dX10_feed_28 : decode cX10_feed 28 = .ok (.ireturn, 1) := by decide +kernel
theorem dX10_feed_29 : decode cX10_feed 29 = .ok (.iload_n 3, 1) := by decide +kernel
theorem dX10_feed_30 : decode cX10_feed 30 = .ok (.iconst 1, 1) := by decide +kernel
theorem dX10_feed_31 : decode cX10_feed 31 = .ok (.isub, 1) := by decide +kernel
theorem dX10_feed_32 : decode cX10_feed 32 = .ok (.istore 4, 2) := by decide +kernel
theorem dX10_feed_34 : decode cX10_feed 34 = .ok (.iload 4, 2) := by decide +kernel
theorem dX10_feed_36 : decode cX10_feed 36 = .ok (.ifCond .lt 45, 3) := by decide +kernel
theorem dX10_feed_39 : decode cX10_feed 39 = .ok (.aload_n 0, 1) := by decide +kernel
theorem dX10_feed_40 : decode cX10_feed 40 = .ok (.getfield 9, 3) := by decide +kernel
theorem dX10_feed_43 : decode cX10_feed 43 = .ok (.bipush 10, 2) := by decide +kernel
theorem dX10_feed_45 : decode cX10_feed 45 = .ok (.aload_n 0, 1) := by decide +kernel
theorem dX10_feed_46 : decode cX10_feed 46 = .ok (.getfield 9, 3) := by decide +kernel
theorem dX10_feed_49 : decode cX10_feed 49 = .ok (.iconst 3, 1) := by decide +kernel
theorem dX10_feed_50 : decode cX10_feed 50 = .ok (.iaload, 1) := by decide +kernel
theorem dX10_feed_51 : decode cX10_feed 51 = .ok (.iadd, 1) := by decide +kernel
theorem dX10_feed_52 : decode cX10_feed 52 = .ok (.lload_n 1, 1) := by decide +kernel
theorem dX10_feed_53 : decode cX10_feed 53 = .ok (.bipush 8, 2) := by decide +kernel
theorem dX10_feed_55 : decode cX10_feed 55 = .ok (.iload 4, 2) := by decide +kernel
theorem dX10_feed_57 : decode cX10_feed 57 = .ok (.imul, 1) := by decide +kernel
theorem dX10_feed_58 : decode cX10_feed 58 = .ok (.lshr, 1) := by decide +kernel
theorem dX10_feed_59 : decode cX10_feed 59 = .ok (.ldc2_w 50, 3) := by decide +kernel
theorem dX10_feed_62 : decode cX10_feed 62 = .ok (.land, 1) := by decide +kernel
theorem dX10_feed_63 : decode cX10_feed 63 = .ok (.l2i, 1) := by decide +kernel
theorem dX10_feed_64 : decode cX10_feed 64 = .ok (.iastore, 1) := by decide +kernel
theorem dX10_feed_65 : decode cX10_feed 65 = .ok (.aload_n 0, 1) := by decide +kernel
theorem dX10_feed_66 : decode cX10_feed 66 = .ok (.getfield 9, 3) := by decide +kernel
theorem dX10_feed_69 : decode cX10_feed 69 = .ok (.iconst 3, 1) := by decide +kernel
theorem dX10_feed_70 : decode cX10_feed 70 = .ok (.dup2, 1) := by decide +kernel
theorem dX10_feed_71 : decode cX10_feed 71 = .ok (.iaload, 1) := by decide +kernel
theorem dX10_feed_72 : decode cX10_feed 72 = .ok (.iconst 1, 1) := by decide +kernel
theorem dX10_feed_73 : decode cX10_feed 73 = .ok (.iadd, 1) := by decide +kernel
theorem dX10_feed_74 : decode cX10_feed 74 = .ok (.iastore, 1) := by decide +kernel
theorem dX10_feed_75 : decode cX10_feed 75 = .ok (.iinc 4 (-1), 3) := by decide +kernel
theorem dX10_feed_78 : decode cX10_feed 78 = .ok (.goto (-44), 3) := by decide +kernel
theorem dX10_feed_81 : decode cX10_feed 81 = .ok (.aload_n 0, 1) := by decide +kernel
theorem dX10_feed_82 : decode cX10_feed 82 = .ok (.getfield 9, 3) := by decide +kernel
theorem dX10_feed_85 : decode cX10_feed 85 = .ok (.iconst 3, 1) := by decide +kernel
theorem dX10_feed_86 : decode cX10_feed 86 = .ok (.iaload, 1) := by decide +kernel
theorem dX10_feed_87 : decode cX10_feed 87 = .ok (.ireturn, 1) := by decide +kernel
theorem dX10_here_0 : decode cX10_here 0 = .ok (.aload_n 0, 1) := by decide +kernel
theorem dX10_here_1 : decode cX10_here 1 = .ok (.getfield 52, 3) := by decide +kernel
theorem dX10_here_4 : decode cX10_here 4 = .ok (.aload_n 0, 1) := by decide +kernel
theorem dX10_here_5 : decode cX10_here 5 = .ok (.getfield 55, 3) := by decide +kernel
theorem dX10_here_8 : decode cX10_here 8 = .ok (.if_icmp .ge 18, 3) := by decide +kernel
theorem dX10_here_11 : decode cX10_here 11 = .ok (.aload_n 0, 1) := by decide +kernel
theorem dX10_here_12 : decode cX10_here 12 = .ok (.getfield 9, 3) := by decide +kernel
theorem dX10_here_15 : decode cX10_here 15 = .ok (.bipush 10, 2) := by decide +kernel
theorem dX10_here_17 : decode cX10_here 17 = .ok (.aload_n 0, 1) := by decide +kernel
theorem dX10_here_18 : decode cX10_here 18 = .ok (.getfield 52, 3) := by decide +kernel
theorem dX10_here_21 : decode cX10_here 21 = .ok (.iadd, 1) := by decide +kernel
theorem dX10_here_22 : decode cX10_here 22 = .ok (.iaload, 1) := by decide +kernel
theorem dX10_here_23 : decode cX10_here 23 = .ok (.goto 4, 3) := by decide +kernel
theorem dX10_here_26 : decode cX10_here 26 = .ok (.iconst (-1), 1) := by decide +kernel
theorem dX10_here_27 : decode cX10_here 27 = .ok (.ireturn, 1) := by decide +kernel
theorem dX10_must_0 : decode cX10_must 0 = .ok (.aload_n 0, 1) := by decide +kernel
theorem dX10_must_1 : decode cX10_must 1 = .ok (.aload_n 0, 1) := by decide +kernel
theorem dX10_must_2 : decode cX10_must 2 = .ok (.getfield 58, 3) := by decide +kernel
theorem dX10_must_5 : decode cX10_must 5 = .ok (.ifCond .ne 11, 3) := by decide +kernel
theorem dX10_must_8 : decode cX10_must 8 = .ok (.aload_n 0, 1) := by decide +kernel
theorem dX10_must_9 : decode cX10_must 9 = .ok (.invokevirtual 62, 3) := by decide +kernel
theorem dX10_must_12 : decode cX10_must 12 = .ok (.iload_n 1, 1) := by decide +kernel
theorem dX10_must_13 : decode cX10_must 13 = .ok (.if_icmp .eq 7, 3) := by decide +kernel
theorem dX10_must_16 : decode cX10_must 16 = .ok (.iconst 1, 1) := by decide +kernel
theorem dX10_must_17 : decode cX10_must 17 = .ok (.goto 4, 3) := by decide +kernel
theorem dX10_must_20 : decode cX10_must 20 = .ok (.iconst 0, 1) := by decide +kernel
theorem dX10_must_21 : decode cX10_must 21 = .ok (.putfield 58, 3) := by decide +kernel
theorem dX10_must_24 : decode cX10_must 24 = .ok (.aload_n 0, 1) := by decide +kernel
theorem dX10_must_25 : decode cX10_must 25 = .ok (.dup, 1) := by decide +kernel
theorem dX10_must_26 : decode cX10_must 26 = .ok (.getfield 52, 3) := by decide +kernel
theorem dX10_must_29 : decode cX10_must 29 = .ok (.aload_n 0, 1) := by decide +kernel
theorem dX10_must_30 : decode cX10_must 30 = .ok (.getfield 58, 3) := by decide +kernel
theorem dX10_must_33 : decode cX10_must 33 = .ok (.ifCond .eq 7, 3) := by decide +kernel
theorem dX10_must_36 : decode cX10_must 36 = .ok (.iconst 0, 1) := by decide +kernel
theorem dX10_must_37 : decode cX10_must 37 = .ok (.goto 4, 3) := by decide +kernel
theorem dX10_must_40 : decode cX10_must 40 = .ok (.iconst 1, 1) := by decide +kernel
theorem dX10_must_41 : decode cX10_must 41 = .ok (.iadd, 1) := by decide +kernel
theorem dX10_must_42 : decode cX10_must 42 = .ok (.putfield 52, 3) := by decide +kernel
theorem dX10_must_45 : decode cX10_must 45 = .ok (.return_, 1) := by decide +kernel
theorem dX10_spells_0 : decode cX10_spells 0 = .ok (.iconst 0, 1) := by decide +kernel
theorem dX10_spells_1 : decode cX10_spells 1 = .ok (.istore_n 2, 1) := by decide +kernel
theorem dX10_spells_2 : decode cX10_spells 2 = .ok (.iload_n 2, 1) := by decide +kernel
theorem dX10_spells_3 : decode cX10_spells 3 = .ok (.aload_n 1, 1) := by decide +kernel
theorem dX10_spells_4 : decode cX10_spells 4 = .ok (.invokevirtual 66, 3) := by decide +kernel
theorem dX10_spells_7 : decode cX10_spells 7 = .ok (.if_icmp .ge 18, 3) := by decide +kernel
theorem dX10_spells_10 : decode cX10_spells 10 = .ok (.aload_n 0, 1) := by decide +kernel
theorem dX10_spells_11 : decode cX10_spells 11 = .ok (.aload_n 1, 1) := by decide +kernel
theorem dX10_spells_12 : decode cX10_spells 12 = .ok (.iload_n 2, 1) := by decide +kernel
theorem dX10_spells_13 : decode cX10_spells 13 = .ok (.invokevirtual 71, 3) := by decide +kernel
theorem dX10_spells_16 : decode cX10_spells 16 = .ok (.invokevirtual 75, 3) := by decide +kernel
theorem dX10_spells_19 : decode cX10_spells 19 = .ok (.iinc 2 1, 3) := by decide +kernel
theorem dX10_spells_22 : decode cX10_spells 22 = .ok (.goto (-20), 3) := by decide +kernel
theorem dX10_spells_25 : decode cX10_spells 25 = .ok (.return_, 1) := by decide +kernel
theorem dX10_figures_0 : decode cX10_figures 0 = .ok (.aload_n 0, 1) := by decide +kernel
theorem dX10_figures_1 : decode cX10_figures 1 = .ok (.aload_n 0, 1) := by decide +kernel
theorem dX10_figures_2 : decode cX10_figures 2 = .ok (.getfield 58, 3) := by decide +kernel
theorem dX10_figures_5 : decode cX10_figures 5 = .ok (.ifCond .ne 17, 3) := by decide +kernel
theorem dX10_figures_8 : decode cX10_figures 8 = .ok (.aload_n 0, 1) := by decide +kernel
theorem dX10_figures_9 : decode cX10_figures 9 = .ok (.invokevirtual 62, 3) := by decide +kernel
theorem dX10_figures_12 : decode cX10_figures 12 = .ok (.bipush 48, 2) := by decide +kernel
theorem dX10_figures_14 : decode cX10_figures 14 = .ok (.bipush 57, 2) := by decide +kernel
theorem dX10_figures_16 : decode cX10_figures 16 = .ok (.invokestatic 44, 3) := by decide +kernel
theorem dX10_figures_19 : decode cX10_figures 19 = .ok (.ifCond .ne 7, 3) := by decide +kernel
theorem dX10_figures_22 : decode cX10_figures 22 = .ok (.iconst 1, 1) := by decide +kernel
theorem dX10_figures_23 : decode cX10_figures 23 = .ok (.goto 4, 3) := by decide +kernel
theorem dX10_figures_26 : decode cX10_figures 26 = .ok (.iconst 0, 1) := by decide +kernel
theorem dX10_figures_27 : decode cX10_figures 27 = .ok (.putfield 58, 3) := by decide +kernel
theorem dX10_figures_30 : decode cX10_figures 30 = .ok (.iconst 0, 1) := by decide +kernel
theorem dX10_figures_31 : decode cX10_figures 31 = .ok (.istore_n 1, 1) := by decide +kernel
theorem dX10_figures_32 : decode cX10_figures 32 = .ok (.iconst 0, 1) := by decide +kernel
theorem dX10_figures_33 : decode cX10_figures 33 = .ok (.istore_n 2, 1) := by decide +kernel
theorem dX10_figures_34 : decode cX10_figures 34 = .ok (.iload_n 2, 1) := by decide +kernel
theorem dX10_figures_35 : decode cX10_figures 35 = .ok (.iconst 2, 1) := by decide +kernel
theorem dX10_figures_36 : decode cX10_figures 36 = .ok (.if_icmp .ge 61, 3) := by decide +kernel
theorem dX10_figures_39 : decode cX10_figures 39 = .ok (.aload_n 0, 1) := by decide +kernel
theorem dX10_figures_40 : decode cX10_figures 40 = .ok (.getfield 58, 3) := by decide +kernel
theorem dX10_figures_43 : decode cX10_figures 43 = .ok (.ifCond .ne 54, 3) := by decide +kernel
theorem dX10_figures_46 : decode cX10_figures 46 = .ok (.aload_n 0, 1) := by decide +kernel
theorem dX10_figures_47 : decode cX10_figures 47 = .ok (.invokevirtual 62, 3) := by decide +kernel
theorem dX10_figures_50 : decode cX10_figures 50 = .ok (.bipush 48, 2) := by decide +kernel
theorem dX10_figures_52 : decode cX10_figures 52 = .ok (.bipush 57, 2) := by decide +kernel
theorem dX10_figures_54 : decode cX10_figures 54 = .ok (.invokestatic 44, 3) := by decide +kernel
theorem dX10_figures_57 : decode cX10_figures 57 = .ok (.ifCond .eq 40, 3) := by decide +kernel
theorem dX10_figures_60 : decode cX10_figures 60 = .ok (.iload_n 2, 1) := by decide +kernel
theorem dX10_figures_61 : decode cX10_figures 61 = .ok (.ifCond .eq 7, 3) := by decide +kernel
theorem dX10_figures_64 : decode cX10_figures 64 = .ok (.iload_n 1, 1) := by decide +kernel
theorem dX10_figures_65 : decode cX10_figures 65 = .ok (.ifCond .le 32, 3) := by decide +kernel
theorem dX10_figures_68 : decode cX10_figures 68 = .ok (.bipush 10, 2) := by decide +kernel
theorem dX10_figures_70 : decode cX10_figures 70 = .ok (.iload_n 1, 1) := by decide +kernel
theorem dX10_figures_71 : decode cX10_figures 71 = .ok (.imul, 1) := by decide +kernel
theorem dX10_figures_72 : decode cX10_figures 72 = .ok (.aload_n 0, 1) := by decide +kernel
theorem dX10_figures_73 : decode cX10_figures 73 = .ok (.invokevirtual 62, 3) := by decide +kernel
theorem dX10_figures_76 : decode cX10_figures 76 = .ok (.iadd, 1) := by decide +kernel
theorem dX10_figures_77 : decode cX10_figures 77 = .ok (.bipush 48, 2) := by decide +kernel
theorem dX10_figures_79 : decode cX10_figures 79 = .ok (.isub, 1) := by decide +kernel
theorem dX10_figures_80 : decode cX10_figures 80 = .ok (.istore_n 1, 1) := by decide +kernel
theorem dX10_figures_81 : decode cX10_figures 81 = .ok (.aload_n 0, 1) := by decide +kernel
theorem dX10_figures_82 : decode cX10_figures 82 = .ok (.dup, 1) := by decide +kernel
theorem dX10_figures_83 : decode cX10_figures 83 = .ok (.getfield 52, 3) := by decide +kernel
theorem dX10_figures_86 : decode cX10_figures 86 = .ok (.iconst 1, 1) := by decide +kernel
theorem dX10_figures_87 : decode cX10_figures 87 = .ok (.iadd, 1) := by decide +kernel
theorem dX10_figures_88 : decode cX10_figures 88 = .ok (.putfield 52, 3) := by decide +kernel
theorem dX10_figures_91 : decode cX10_figures 91 = .ok (.iinc 2 1, 3) := by decide +kernel
theorem dX10_figures_94 : decode cX10_figures 94 = .ok (.goto (-60), 3) := by decide +kernel
theorem dX10_figures_97 : decode cX10_figures 97 = .ok (.iload_n 1, 1) := by decide +kernel
theorem dX10_figures_98 : decode cX10_figures 98 = .ok (.ireturn, 1) := by decide +kernel
theorem dX10_among_0 : decode cX10_among 0 = .ok (.iconst 0, 1) := by decide +kernel
theorem dX10_among_1 : decode cX10_among 1 = .ok (.istore_n 2, 1) := by decide +kernel
theorem dX10_among_2 : decode cX10_among 2 = .ok (.iload_n 2, 1) := by decide +kernel
theorem dX10_among_3 : decode cX10_among 3 = .ok (.aload_n 1, 1) := by decide +kernel
theorem dX10_among_4 : decode cX10_among 4 = .ok (.invokevirtual 66, 3) := by decide +kernel
theorem dX10_among_7 : decode cX10_among 7 = .ok (.if_icmp .ge 33, 3) := by decide +kernel
theorem dX10_among_10 : decode cX10_among 10 = .ok (.aload_n 0, 1) := by decide +kernel
theorem dX10_among_11 : decode cX10_among 11 = .ok (.invokevirtual 62, 3) := by decide +kernel
theorem dX10_among_14 : decode cX10_among 14 = .ok (.aload_n 1, 1) := by decide +kernel
theorem dX10_among_15 : decode cX10_among 15 = .ok (.iload_n 2, 1) := by decide +kernel
theorem dX10_among_16 : decode cX10_among 16 = .ok (.invokevirtual 71, 3) := by decide +kernel
theorem dX10_among_19 : decode cX10_among 19 = .ok (.if_icmp .ne 15, 3) := by decide +kernel
theorem dX10_among_22 : decode cX10_among 22 = .ok (.aload_n 0, 1) := by decide +kernel
theorem dX10_among_23 : decode cX10_among 23 = .ok (.dup, 1) := by decide +kernel
theorem dX10_among_24 : decode cX10_among 24 = .ok (.getfield 52, 3) := by decide +kernel
theorem dX10_among_27 : decode cX10_among 27 = .ok (.iconst 1, 1) := by decide +kernel
theorem dX10_among_28 : decode cX10_among 28 = .ok (.iadd, 1) := by decide +kernel
theorem dX10_among_29 : decode cX10_among 29 = .ok (.putfield 52, 3) := by decide +kernel
theorem dX10_among_32 : decode cX10_among 32 = .ok (.iload_n 2, 1) := by decide +kernel
theorem dX10_among_33 : decode cX10_among 33 = .ok (.ireturn, 1) := by decide +kernel
theorem dX10_among_34 : decode cX10_among 34 = .ok (.iinc 2 1, 3) := by decide +kernel
theorem dX10_among_37 : decode cX10_among 37 = .ok (.goto (-35), 3) := by decide +kernel
theorem dX10_among_40 : decode cX10_among 40 = .ok (.iconst (-1), 1) := by decide +kernel
theorem dX10_among_41 : decode cX10_among 41 = .ok (.ireturn, 1) := by decide +kernel
theorem dX10_emits_0 : decode cX10_emits 0 = .ok (.aload_n 0, 1) := by decide +kernel
theorem dX10_emits_1 : decode cX10_emits 1 = .ok (.getfield 58, 3) := by decide +kernel
theorem dX10_emits_4 : decode cX10_emits 4 = .ok (.ifCond .ne 52, 3) := by decide +kernel
theorem dX10_emits_7 : decode cX10_emits 7 = .ok (.aload_n 0, 1) := by decide +kernel
theorem dX10_emits_8 : decode cX10_emits 8 = .ok (.getfield 9, 3) := by decide +kernel
theorem dX10_emits_11 : decode cX10_emits 11 = .ok (.sipush 366, 3) := by decide +kernel
theorem dX10_emits_14 : decode cX10_emits 14 = .ok (.sipush 140, 3) := by decide +kernel
theorem dX10_emits_17 : decode cX10_emits 17 = .ok (.aload_n 0, 1) := by decide +kernel
theorem dX10_emits_18 : decode cX10_emits 18 = .ok (.getfield 79, 3) := by decide +kernel
theorem dX10_emits_21 : decode cX10_emits 21 = .ok (.imul, 1) := by decide +kernel
theorem dX10_emits_22 : decode cX10_emits 22 = .ok (.iadd, 1) := by decide +kernel
theorem dX10_emits_23 : decode cX10_emits 23 = .ok (.aload_n 0, 1) := by decide +kernel
theorem dX10_emits_24 : decode cX10_emits 24 = .ok (.getfield 9, 3) := by decide +kernel
theorem dX10_emits_27 : decode cX10_emits 27 = .ok (.sipush 361, 3) := by decide +kernel
theorem dX10_emits_30 : decode cX10_emits 30 = .ok (.aload_n 0, 1) := by decide +kernel
theorem dX10_emits_31 : decode cX10_emits 31 = .ok (.getfield 79, 3) := by decide +kernel
theorem dX10_emits_34 : decode cX10_emits 34 = .ok (.iadd, 1) := by decide +kernel
theorem dX10_emits_35 : decode cX10_emits 35 = .ok (.iaload, 1) := by decide +kernel
theorem dX10_emits_36 : decode cX10_emits 36 = .ok (.iadd, 1) := by decide +kernel
theorem dX10_emits_37 : decode cX10_emits 37 = .ok (.iload_n 1, 1) := by decide +kernel
theorem dX10_emits_38 : decode cX10_emits 38 = .ok (.iastore, 1) := by decide +kernel
theorem dX10_emits_39 : decode cX10_emits 39 = .ok (.aload_n 0, 1) := by decide +kernel
theorem dX10_emits_40 : decode cX10_emits 40 = .ok (.getfield 9, 3) := by decide +kernel
theorem dX10_emits_43 : decode cX10_emits 43 = .ok (.sipush 361, 3) := by decide +kernel
theorem dX10_emits_46 : decode cX10_emits 46 = .ok (.aload_n 0, 1) := by decide +kernel
theorem dX10_emits_47 : decode cX10_emits 47 = .ok (.getfield 79, 3) := by decide +kernel
theorem dX10_emits_50 : decode cX10_emits 50 = .ok (.iadd, 1) := by decide +kernel
theorem dX10_emits_51 : decode cX10_emits 51 = .ok (.dup2, 1) := by decide +kernel
theorem dX10_emits_52 : decode cX10_emits 52 = .ok (.iaload, 1) := by decide +kernel
theorem dX10_emits_53 : decode cX10_emits 53 = .ok (.iconst 1, 1) := by decide +kernel
theorem dX10_emits_54 : decode cX10_emits 54 = .ok (.iadd, 1) := by decide +kernel
theorem dX10_emits_55 : decode cX10_emits 55 = .ok (.iastore, 1) := by decide +kernel
theorem dX10_emits_56 : decode cX10_emits 56 = .ok (.return_, 1) := by decide +kernel
theorem dX10_factor_0 : decode cX10_factor 0 = .ok (.aload_n 0, 1) := by decide +kernel
theorem dX10_factor_1 : decode cX10_factor 1 = .ok (.getfield 58, 3) := by decide +kernel
end
section
-- decode rows, as printed (NAMES.whole)
theorem dX10_factor_4 : decode cX10_factor 4 = .ok (.ifCond .eq 4, 3) := by decide +kernel
theorem dX10_factor_7 : decode cX10_factor 7 = .ok (.return_, 1) := by decide +kernel
theorem dX10_factor_8 : decode cX10_factor 8 = .ok (.aload_n 0, 1) := by decide +kernel
theorem dX10_factor_9 : decode cX10_factor 9 = .ok (.invokevirtual 62, 3) := by decide +kernel
theorem dX10_factor_12 : decode cX10_factor 12 = .ok (.istore_n 1, 1) := by decide +kernel
theorem dX10_factor_13 : decode cX10_factor 13 = .ok (.iload_n 1, 1) := by decide +kernel
theorem dX10_factor_14 : decode cX10_factor 14 = .ok (.bipush 33, 2) := by decide +kernel
theorem dX10_factor_16 : decode cX10_factor 16 = .ok (.if_icmp .eq 9, 3) := by decide +kernel
theorem dX10_factor_19 : decode cX10_factor 19 = .ok (.iload_n 1, 1) := by decide +kernel
theorem dX10_factor_20 : decode cX10_factor 20 = .ok (.bipush 40, 2) := by decide +kernel
theorem dX10_factor_22 : decode cX10_factor 22 = .ok (.if_icmp .ne 90, 3) := by decide +kernel
theorem dX10_factor_25 : decode cX10_factor 25 = .ok (.aload_n 0, 1) := by decide +kernel
theorem dX10_factor_26 : decode cX10_factor 26 = .ok (.aload_n 0, 1) := by decide +kernel
theorem dX10_factor_27 : decode cX10_factor 27 = .ok (.getfield 82, 3) := by decide +kernel
theorem dX10_factor_30 : decode cX10_factor 30 = .ok (.iconst 5, 1) := by decide +kernel
theorem dX10_factor_31 : decode cX10_factor 31 = .ok (.if_icmp .ne 7, 3) := by decide +kernel
theorem dX10_factor_34 : decode cX10_factor 34 = .ok (.iconst 1, 1) := by decide +kernel
theorem dX10_factor_35 : decode cX10_factor 35 = .ok (.goto 4, 3) := by decide +kernel
theorem dX10_factor_38 : decode cX10_factor 38 = .ok (.iconst 0, 1) := by decide +kernel
theorem dX10_factor_39 : decode cX10_factor 39 = .ok (.putfield 58, 3) := by decide +kernel
theorem dX10_factor_42 : decode cX10_factor 42 = .ok (.aload_n 0, 1) := by decide +kernel
theorem dX10_factor_43 : decode cX10_factor 43 = .ok (.dup, 1) := by decide +kernel
theorem dX10_factor_44 : decode cX10_factor 44 = .ok (.getfield 82, 3) := by decide +kernel
theorem dX10_factor_47 : decode cX10_factor 47 = .ok (.iconst 1, 1) := by decide +kernel
theorem dX10_factor_48 : decode cX10_factor 48 = .ok (.iadd, 1) := by decide +kernel
theorem dX10_factor_49 : decode cX10_factor 49 = .ok (.putfield 82, 3) := by decide +kernel
theorem dX10_factor_52 : decode cX10_factor 52 = .ok (.aload_n 0, 1) := by decide +kernel
theorem dX10_factor_53 : decode cX10_factor 53 = .ok (.dup, 1) := by decide +kernel
theorem dX10_factor_54 : decode cX10_factor 54 = .ok (.getfield 52, 3) := by decide +kernel
theorem dX10_factor_57 : decode cX10_factor 57 = .ok (.aload_n 0, 1) := by decide +kernel
theorem dX10_factor_58 : decode cX10_factor 58 = .ok (.getfield 58, 3) := by decide +kernel
theorem dX10_factor_61 : decode cX10_factor 61 = .ok (.ifCond .eq 7, 3) := by decide +kernel
theorem dX10_factor_64 : decode cX10_factor 64 = .ok (.iconst 0, 1) := by decide +kernel
theorem dX10_factor_65 : decode cX10_factor 65 = .ok (.goto 4, 3) := by decide +kernel
theorem dX10_factor_68 : decode cX10_factor 68 = .ok (.iconst 1, 1) := by decide +kernel
theorem dX10_factor_69 : decode cX10_factor 69 = .ok (.iadd, 1) := by decide +kernel
theorem dX10_factor_70 : decode cX10_factor 70 = .ok (.putfield 52, 3) := by decide +kernel
theorem dX10_factor_73 : decode cX10_factor 73 = .ok (.iload_n 1, 1) := by decide +kernel
theorem dX10_factor_74 : decode cX10_factor 74 = .ok (.bipush 33, 2) := by decide +kernel
theorem dX10_factor_76 : decode cX10_factor 76 = .ok (.if_icmp .ne 15, 3) := by decide +kernel
theorem dX10_factor_79 : decode cX10_factor 79 = .ok (.aload_n 0, 1) := by decide +kernel
theorem dX10_factor_80 : decode cX10_factor 80 = .ok (.invokevirtual 85, 3) := by decide +kernel
theorem dX10_factor_83 : decode cX10_factor 83 = .ok (.aload_n 0, 1) := by decide +kernel
theorem dX10_factor_84 : decode cX10_factor 84 = .ok (.iconst (-1), 1) := by decide +kernel
theorem dX10_factor_85 : decode cX10_factor 85 = .ok (.invokevirtual 88, 3) := by decide +kernel
theorem dX10_factor_88 : decode cX10_factor 88 = .ok (.goto 13, 3) := by decide +kernel
theorem dX10_factor_91 : decode cX10_factor 91 = .ok (.aload_n 0, 1) := by decide +kernel
theorem dX10_factor_92 : decode cX10_factor 92 = .ok (.invokevirtual 91, 3) := by decide +kernel
theorem dX10_factor_95 : decode cX10_factor 95 = .ok (.aload_n 0, 1) := by decide +kernel
theorem dX10_factor_96 : decode cX10_factor 96 = .ok (.bipush 41, 2) := by decide +kernel
theorem dX10_factor_98 : decode cX10_factor 98 = .ok (.invokevirtual 75, 3) := by decide +kernel
theorem dX10_factor_101 : decode cX10_factor 101 = .ok (.aload_n 0, 1) := by decide +kernel
theorem dX10_factor_102 : decode cX10_factor 102 = .ok (.dup, 1) := by decide +kernel
theorem dX10_factor_103 : decode cX10_factor 103 = .ok (.getfield 82, 3) := by decide +kernel
theorem dX10_factor_106 : decode cX10_factor 106 = .ok (.iconst 1, 1) := by decide +kernel
theorem dX10_factor_107 : decode cX10_factor 107 = .ok (.isub, 1) := by decide +kernel
theorem dX10_factor_108 : decode cX10_factor 108 = .ok (.putfield 82, 3) := by decide +kernel
theorem dX10_factor_111 : decode cX10_factor 111 = .ok (.return_, 1) := by decide +kernel
theorem dX10_factor_112 : decode cX10_factor 112 = .ok (.aload_n 0, 1) := by decide +kernel
theorem dX10_factor_113 : decode cX10_factor 113 = .ok (.ldc 94, 2) := by decide +kernel
theorem dX10_factor_115 : decode cX10_factor 115 = .ok (.invokevirtual 96, 3) := by decide +kernel
theorem dX10_factor_118 : decode cX10_factor 118 = .ok (.istore_n 2, 1) := by decide +kernel
theorem dX10_factor_119 : decode cX10_factor 119 = .ok (.aload_n 0, 1) := by decide +kernel
theorem dX10_factor_120 : decode cX10_factor 120 = .ok (.iload_n 2, 1) := by decide +kernel
theorem dX10_factor_121 : decode cX10_factor 121 = .ok (.iconst (-1), 1) := by decide +kernel
theorem dX10_factor_122 : decode cX10_factor 122 = .ok (.if_icmp .ne 7, 3) := by decide +kernel
theorem dX10_factor_125 : decode cX10_factor 125 = .ok (.iconst 1, 1) := by decide +kernel
theorem dX10_factor_126 : decode cX10_factor 126 = .ok (.goto 4, 3) := by decide +kernel
theorem dX10_factor_129 : decode cX10_factor 129 = .ok (.iconst 0, 1) := by decide +kernel
theorem dX10_factor_130 : decode cX10_factor 130 = .ok (.putfield 58, 3) := by decide +kernel
theorem dX10_factor_133 : decode cX10_factor 133 = .ok (.aload_n 0, 1) := by decide +kernel
theorem dX10_factor_134 : decode cX10_factor 134 = .ok (.getfield 58, 3) := by decide +kernel
theorem dX10_factor_137 : decode cX10_factor 137 = .ok (.ifCond .eq 7, 3) := by decide +kernel
theorem dX10_factor_140 : decode cX10_factor 140 = .ok (.iconst 0, 1) := by decide +kernel
theorem dX10_factor_141 : decode cX10_factor 141 = .ok (.goto 9, 3) := by decide +kernel
theorem dX10_factor_144 : decode cX10_factor 144 = .ok (.aload_n 0, 1) := by decide +kernel
theorem dX10_factor_145 : decode cX10_factor 145 = .ok (.ldc 100, 2) := by decide +kernel
theorem dX10_factor_147 : decode cX10_factor 147 = .ok (.invokevirtual 96, 3) := by decide +kernel
theorem dX10_factor_150 : decode cX10_factor 150 = .ok (.istore_n 3, 1) := by decide +kernel
theorem dX10_factor_151 : decode cX10_factor 151 = .ok (.aload_n 0, 1) := by decide +kernel
theorem dX10_factor_152 : decode cX10_factor 152 = .ok (.aload_n 0, 1) := by decide +kernel
theorem dX10_factor_153 : decode cX10_factor 153 = .ok (.getfield 58, 3) := by decide +kernel
theorem dX10_factor_156 : decode cX10_factor 156 = .ok (.ifCond .ne 8, 3) := by decide +kernel
theorem dX10_factor_159 : decode cX10_factor 159 = .ok (.iload_n 3, 1) := by decide +kernel
theorem dX10_factor_160 : decode cX10_factor 160 = .ok (.iconst (-1), 1) := by decide +kernel
theorem dX10_factor_161 : decode cX10_factor 161 = .ok (.if_icmp .ne 7, 3) := by decide +kernel
theorem dX10_factor_164 : decode cX10_factor 164 = .ok (.iconst 1, 1) := by decide +kernel
theorem dX10_factor_165 : decode cX10_factor 165 = .ok (.goto 4, 3) := by decide +kernel
theorem dX10_factor_168 : decode cX10_factor 168 = .ok (.iconst 0, 1) := by decide +kernel
theorem dX10_factor_169 : decode cX10_factor 169 = .ok (.putfield 58, 3) := by decide +kernel
theorem dX10_factor_172 : decode cX10_factor 172 = .ok (.aload_n 0, 1) := by decide +kernel
theorem dX10_factor_173 : decode cX10_factor 173 = .ok (.invokevirtual 102, 3) := by decide +kernel
theorem dX10_factor_176 : decode cX10_factor 176 = .ok (.istore 4, 2) := by decide +kernel
theorem dX10_factor_178 : decode cX10_factor 178 = .ok (.aload_n 0, 1) := by decide +kernel
theorem dX10_factor_179 : decode cX10_factor 179 = .ok (.iload_n 2, 1) := by decide +kernel
theorem dX10_factor_180 : decode cX10_factor 180 = .ok (.bipush 8, 2) := by decide +kernel
theorem dX10_factor_182 : decode cX10_factor 182 = .ok (.iload_n 3, 1) := by decide +kernel
theorem dX10_factor_183 : decode cX10_factor 183 = .ok (.imul, 1) := by decide +kernel
theorem dX10_factor_184 : decode cX10_factor 184 = .ok (.iadd, 1) := by decide +kernel
theorem dX10_factor_185 : decode cX10_factor 185 = .ok (.bipush 32, 2) := by decide +kernel
theorem dX10_factor_187 : decode cX10_factor 187 = .ok (.iload 4, 2) := by decide +kernel
theorem dX10_factor_189 : decode cX10_factor 189 = .ok (.imul, 1) := by decide +kernel
theorem dX10_factor_190 : decode cX10_factor 190 = .ok (.iadd, 1) := by decide +kernel
theorem dX10_factor_191 : decode cX10_factor 191 = .ok (.invokevirtual 88, 3) := by decide +kernel
theorem dX10_factor_194 : decode cX10_factor 194 = .ok (.return_, 1) := by decide +kernel
theorem dX10_every_0 : decode cX10_every 0 = .ok (.aload_n 0, 1) := by decide +kernel
theorem dX10_every_1 : decode cX10_every 1 = .ok (.invokevirtual 85, 3) := by decide +kernel
theorem dX10_every_4 : decode cX10_every 4 = .ok (.aload_n 0, 1) := by decide +kernel
theorem dX10_every_5 : decode cX10_every 5 = .ok (.getfield 58, 3) := by decide +kernel
theorem dX10_every_8 : decode cX10_every 8 = .ok (.ifCond .ne 35, 3) := by decide +kernel
theorem dX10_every_11 : decode cX10_every 11 = .ok (.aload_n 0, 1) := by decide +kernel
theorem dX10_every_12 : decode cX10_every 12 = .ok (.invokevirtual 62, 3) := by decide +kernel
theorem dX10_every_15 : decode cX10_every 15 = .ok (.bipush 38, 2) := by decide +kernel
theorem dX10_every_17 : decode cX10_every 17 = .ok (.if_icmp .ne 26, 3) := by decide +kernel
theorem dX10_every_20 : decode cX10_every 20 = .ok (.aload_n 0, 1) := by decide +kernel
theorem dX10_every_21 : decode cX10_every 21 = .ok (.dup, 1) := by decide +kernel
theorem dX10_every_22 : decode cX10_every 22 = .ok (.getfield 52, 3) := by decide +kernel
theorem dX10_every_25 : decode cX10_every 25 = .ok (.iconst 1, 1) := by decide +kernel
theorem dX10_every_26 : decode cX10_every 26 = .ok (.iadd, 1) := by decide +kernel
theorem dX10_every_27 : decode cX10_every 27 = .ok (.putfield 52, 3) := by decide +kernel
theorem dX10_every_30 : decode cX10_every 30 = .ok (.aload_n 0, 1) := by decide +kernel
theorem dX10_every_31 : decode cX10_every 31 = .ok (.invokevirtual 85, 3) := by decide +kernel
theorem dX10_every_34 : decode cX10_every 34 = .ok (.aload_n 0, 1) := by decide +kernel
theorem dX10_every_35 : decode cX10_every 35 = .ok (.bipush (-2), 2) := by decide +kernel
theorem dX10_every_37 : decode cX10_every 37 = .ok (.invokevirtual 88, 3) := by decide +kernel
theorem dX10_every_40 : decode cX10_every 40 = .ok (.goto (-36), 3) := by decide +kernel
theorem dX10_every_43 : decode cX10_every 43 = .ok (.return_, 1) := by decide +kernel
theorem dX10_some_0 : decode cX10_some 0 = .ok (.aload_n 0, 1) := by decide +kernel
theorem dX10_some_1 : decode cX10_some 1 = .ok (.invokevirtual 105, 3) := by decide +kernel
theorem dX10_some_4 : decode cX10_some 4 = .ok (.aload_n 0, 1) := by decide +kernel
theorem dX10_some_5 : decode cX10_some 5 = .ok (.getfield 58, 3) := by decide +kernel
theorem dX10_some_8 : decode cX10_some 8 = .ok (.ifCond .ne 35, 3) := by decide +kernel
theorem dX10_some_11 : decode cX10_some 11 = .ok (.aload_n 0, 1) := by decide +kernel
theorem dX10_some_12 : decode cX10_some 12 = .ok (.invokevirtual 62, 3) := by decide +kernel
theorem dX10_some_15 : decode cX10_some 15 = .ok (.bipush 124, 2) := by decide +kernel
theorem dX10_some_17 : decode cX10_some 17 = .ok (.if_icmp .ne 26, 3) := by decide +kernel
theorem dX10_some_20 : decode cX10_some 20 = .ok (.aload_n 0, 1) := by decide +kernel
theorem dX10_some_21 : decode cX10_some 21 = .ok (.dup, 1) := by decide +kernel
theorem dX10_some_22 : decode cX10_some 22 = .ok (.getfield 52, 3) := by decide +kernel
theorem dX10_some_25 : decode cX10_some 25 = .ok (.iconst 1, 1) := by decide +kernel
theorem dX10_some_26 : decode cX10_some 26 = .ok (.iadd, 1) := by decide +kernel
theorem dX10_some_27 : decode cX10_some 27 = .ok (.putfield 52, 3) := by decide +kernel
theorem dX10_some_30 : decode cX10_some 30 = .ok (.aload_n 0, 1) := by decide +kernel
theorem dX10_some_31 : decode cX10_some 31 = .ok (.invokevirtual 105, 3) := by decide +kernel
theorem dX10_some_34 : decode cX10_some 34 = .ok (.aload_n 0, 1) := by decide +kernel
theorem dX10_some_35 : decode cX10_some 35 = .ok (.bipush (-3), 2) := by decide +kernel
theorem dX10_some_37 : decode cX10_some 37 = .ok (.invokevirtual 88, 3) := by decide +kernel
theorem dX10_some_40 : decode cX10_some 40 = .ok (.goto (-36), 3) := by decide +kernel
theorem dX10_some_43 : decode cX10_some 43 = .ok (.return_, 1) := by decide +kernel
theorem dX10_much_0 : decode cX10_much 0 = .ok (.aload_n 0, 1) := by decide +kernel
theorem dX10_much_1 : decode cX10_much 1 = .ok (.aload_n 2, 1) := by decide +kernel
theorem dX10_much_2 : decode cX10_much 2 = .ok (.invokevirtual 108, 3) := by decide +kernel
theorem dX10_much_5 : decode cX10_much 5 = .ok (.aload_n 0, 1) := by decide +kernel
theorem dX10_much_6 : decode cX10_much 6 = .ok (.invokevirtual 102, 3) := by decide +kernel
theorem dX10_much_9 : decode cX10_much 9 = .ok (.istore_n 3, 1) := by decide +kernel
theorem dX10_much_10 : decode cX10_much 10 = .ok (.aload_n 0, 1) := by decide +kernel
theorem dX10_much_11 : decode cX10_much 11 = .ok (.bipush 32, 2) := by decide +kernel
theorem dX10_much_13 : decode cX10_much 13 = .ok (.invokevirtual 75, 3) := by decide +kernel
theorem dX10_much_16 : decode cX10_much 16 = .ok (.aload_n 0, 1) := by decide +kernel
theorem dX10_much_17 : decode cX10_much 17 = .ok (.invokevirtual 91, 3) := by decide +kernel
theorem dX10_much_20 : decode cX10_much 20 = .ok (.aload_n 0, 1) := by decide +kernel
theorem dX10_much_21 : decode cX10_much 21 = .ok (.iload_n 1, 1) := by decide +kernel
theorem dX10_much_22 : decode cX10_much 22 = .ok (.iload_n 3, 1) := by decide +kernel
theorem dX10_much_23 : decode cX10_much 23 = .ok (.isub, 1) := by decide +kernel
theorem dX10_much_24 : decode cX10_much 24 = .ok (.invokevirtual 88, 3) := by decide +kernel
theorem dX10_much_27 : decode cX10_much 27 = .ok (.return_, 1) := by decide +kernel
theorem dX10_tellsHere_0 : decode cX10_tellsHere 0 = .ok (.aload_n 0, 1) := by decide +kernel
theorem dX10_tellsHere_1 : decode cX10_tellsHere 1 = .ok (.aload_n 2, 1) := by decide +kernel
theorem dX10_tellsHere_2 : decode cX10_tellsHere 2 = .ok (.invokevirtual 108, 3) := by decide +kernel
theorem dX10_tellsHere_5 : decode cX10_tellsHere 5 = .ok (.aload_n 0, 1) := by decide +kernel
theorem dX10_tellsHere_6 : decode cX10_tellsHere 6 = .ok (.invokevirtual 102, 3) := by decide +kernel
theorem dX10_tellsHere_9 : decode cX10_tellsHere 9 = .ok (.istore_n 3, 1) := by decide +kernel
theorem dX10_tellsHere_10 : decode cX10_tellsHere 10 = .ok (.aload_n 0, 1) := by decide +kernel
theorem dX10_tellsHere_11 : decode cX10_tellsHere 11 = .ok (.getfield 58, 3) := by decide +kernel
theorem dX10_tellsHere_14 : decode cX10_tellsHere 14 = .ok (.ifCond .ne 15, 3) := by decide +kernel
theorem dX10_tellsHere_17 : decode cX10_tellsHere 17 = .ok (.aload_n 0, 1) := by decide +kernel
theorem dX10_tellsHere_18 : decode cX10_tellsHere 18 = .ok (.getfield 9, 3) := by decide +kernel
theorem dX10_tellsHere_21 : decode cX10_tellsHere 21 = .ok (.iload_n 1, 1) := by decide +kernel
theorem dX10_tellsHere_22 : decode cX10_tellsHere 22 = .ok (.aload_n 0, 1) := by decide +kernel
theorem dX10_tellsHere_23 : decode cX10_tellsHere 23 = .ok (.getfield 79, 3) := by decide +kernel
theorem dX10_tellsHere_26 : decode cX10_tellsHere 26 = .ok (.iadd, 1) := by decide +kernel
theorem dX10_tellsHere_27 : decode cX10_tellsHere 27 = .ok (.iload_n 3, 1) := by decide +kernel
theorem dX10_tellsHere_28 : decode cX10_tellsHere 28 = .ok (.iastore, 1) := by decide +kernel
theorem dX10_tellsHere_29 : decode cX10_tellsHere 29 = .ok (.return_, 1) := by decide +kernel
theorem dX10_clauseOfH_0 : decode cX10_clauseOfH 0 = .ok (.aload_n 0, 1) := by decide +kernel
theorem dX10_clauseOfH_1 : decode cX10_clauseOfH 1 = .ok (.bipush 104, 2) := by decide +kernel
theorem dX10_clauseOfH_3 : decode cX10_clauseOfH 3 = .ok (.invokevirtual 75, 3) := by decide +kernel
theorem dX10_clauseOfH_6 : decode cX10_clauseOfH 6 = .ok (.aload_n 0, 1) := by decide +kernel
theorem dX10_clauseOfH_7 : decode cX10_clauseOfH 7 = .ok (.invokevirtual 62, 3) := by decide +kernel
theorem dX10_clauseOfH_10 : decode cX10_clauseOfH 10 = .ok (.bipush 111, 2) := by decide +kernel
theorem dX10_clauseOfH_12 : decode cX10_clauseOfH 12 = .ok (.if_icmp .ne 15, 3) := by decide +kernel
theorem dX10_clauseOfH_15 : decode cX10_clauseOfH 15 = .ok (.aload_n 0, 1) := by decide +kernel
theorem dX10_clauseOfH_16 : decode cX10_clauseOfH 16 = .ok (.sipush (-200), 3) := by decide +kernel
theorem dX10_clauseOfH_19 : decode cX10_clauseOfH 19 = .ok (.ldc 112, 2) := by decide +kernel
theorem dX10_clauseOfH_21 : decode cX10_clauseOfH 21 = .ok (.invokevirtual 114, 3) := by decide +kernel
theorem dX10_clauseOfH_24 : decode cX10_clauseOfH 24 = .ok (.goto 12, 3) := by decide +kernel
theorem dX10_clauseOfH_27 : decode cX10_clauseOfH 27 = .ok (.aload_n 0, 1) := by decide +kernel
theorem dX10_clauseOfH_28 : decode cX10_clauseOfH 28 = .ok (.sipush 356, 3) := by decide +kernel
theorem dX10_clauseOfH_31 : decode cX10_clauseOfH 31 = .ok (.ldc 118, 2) := by decide +kernel
theorem dX10_clauseOfH_33 : decode cX10_clauseOfH 33 = .ok (.invokevirtual 120, 3) := by decide +kernel
theorem dX10_clauseOfH_36 : decode cX10_clauseOfH 36 = .ok (.return_, 1) := by decide +kernel
theorem dX10_clauseHere_0 : decode cX10_clauseHere 0 = .ok (.aload_n 0, 1) := by decide +kernel
theorem dX10_clauseHere_1 : decode cX10_clauseHere 1 = .ok (.invokevirtual 62, 3) := by decide +kernel
theorem dX10_clauseHere_4 : decode cX10_clauseHere 4 = .ok (.lookupswitch 126 #[(97, 114), (99, 90), (103, 60), (104, 71), (105, 102), (119, 78)], 60) := by decide +kernel
theorem dX10_clauseHere_64 : decode cX10_clauseHere 64 = .ok (.aload_n 0, 1) := by decide +kernel
theorem dX10_clauseHere_65 : decode cX10_clauseHere 65 = .ok (.bipush (-10), 2) := by decide +kernel
theorem dX10_clauseHere_67 : decode cX10_clauseHere 67 = .ok (.ldc 123, 2) := by decide +kernel
theorem dX10_clauseHere_69 : decode cX10_clauseHere 69 = .ok (.invokevirtual 114, 3) := by decide +kernel
theorem dX10_clauseHere_72 : decode cX10_clauseHere 72 = .ok (.goto 63, 3) := by decide +kernel
theorem dX10_clauseHere_75 : decode cX10_clauseHere 75 = .ok (.aload_n 0, 1) := by decide +kernel
theorem dX10_clauseHere_76 : decode cX10_clauseHere 76 = .ok (.invokevirtual 125, 3) := by decide +kernel
theorem dX10_clauseHere_79 : decode cX10_clauseHere 79 = .ok (.goto 56, 3) := by decide +kernel
theorem dX10_clauseHere_82 : decode cX10_clauseHere 82 = .ok (.aload_n 0, 1) := by decide +kernel
theorem dX10_clauseHere_83 : decode cX10_clauseHere 83 = .ok (.sipush 336, 3) := by decide +kernel
theorem dX10_clauseHere_86 : decode cX10_clauseHere 86 = .ok (.ldc 128, 2) := by decide +kernel
theorem dX10_clauseHere_88 : decode cX10_clauseHere 88 = .ok (.invokevirtual 120, 3) := by decide +kernel
theorem dX10_clauseHere_91 : decode cX10_clauseHere 91 = .ok (.goto 44, 3) := by decide +kernel
theorem dX10_clauseHere_94 : decode cX10_clauseHere 94 = .ok (.aload_n 0, 1) := by decide +kernel
theorem dX10_clauseHere_95 : decode cX10_clauseHere 95 = .ok (.sipush 341, 3) := by decide +kernel
theorem dX10_clauseHere_98 : decode cX10_clauseHere 98 = .ok (.ldc 130, 2) := by decide +kernel
theorem dX10_clauseHere_100 : decode cX10_clauseHere 100 = .ok (.invokevirtual 120, 3) := by decide +kernel
theorem dX10_clauseHere_103 : decode cX10_clauseHere 103 = .ok (.goto 32, 3) := by decide +kernel
theorem dX10_clauseHere_106 : decode cX10_clauseHere 106 = .ok (.aload_n 0, 1) := by decide +kernel
theorem dX10_clauseHere_107 : decode cX10_clauseHere 107 = .ok (.sipush 346, 3) := by decide +kernel
theorem dX10_clauseHere_110 : decode cX10_clauseHere 110 = .ok (.ldc 132, 2) := by decide +kernel
theorem dX10_clauseHere_112 : decode cX10_clauseHere 112 = .ok (.invokevirtual 120, 3) := by decide +kernel
theorem dX10_clauseHere_115 : decode cX10_clauseHere 115 = .ok (.goto 20, 3) := by decide +kernel
theorem dX10_clauseHere_118 : decode cX10_clauseHere 118 = .ok (.aload_n 0, 1) := by decide +kernel
theorem dX10_clauseHere_119 : decode cX10_clauseHere 119 = .ok (.sipush 351, 3) := by decide +kernel
theorem dX10_clauseHere_122 : decode cX10_clauseHere 122 = .ok (.ldc 134, 2) := by decide +kernel
theorem dX10_clauseHere_124 : decode cX10_clauseHere 124 = .ok (.invokevirtual 120, 3) := by decide +kernel
theorem dX10_clauseHere_127 : decode cX10_clauseHere 127 = .ok (.goto 8, 3) := by decide +kernel
theorem dX10_clauseHere_130 : decode cX10_clauseHere 130 = .ok (.aload_n 0, 1) := by decide +kernel
theorem dX10_clauseHere_131 : decode cX10_clauseHere 131 = .ok (.iconst 1, 1) := by decide +kernel
theorem dX10_clauseHere_132 : decode cX10_clauseHere 132 = .ok (.putfield 58, 3) := by decide +kernel
theorem dX10_clauseHere_135 : decode cX10_clauseHere 135 = .ok (.return_, 1) := by decide +kernel
theorem dX10_house_0 : decode cX10_house 0 = .ok (.aload_n 0, 1) := by decide +kernel
theorem dX10_house_1 : decode cX10_house 1 = .ok (.getfield 9, 3) := by decide +kernel
theorem dX10_house_4 : decode cX10_house 4 = .ok (.iconst 1, 1) := by decide +kernel
theorem dX10_house_5 : decode cX10_house 5 = .ok (.iaload, 1) := by decide +kernel
theorem dX10_house_6 : decode cX10_house 6 = .ok (.iconst 5, 1) := by decide +kernel
theorem dX10_house_7 : decode cX10_house 7 = .ok (.if_icmp .ne 6, 3) := by decide +kernel
theorem dX10_house_10 : decode cX10_house 10 = .ok (.bipush (-4), 2) := by decide +kernel
theorem dX10_house_12 : decode cX10_house 12 = .ok (.ireturn, 1) := by decide +kernel
theorem dX10_house_13 : decode cX10_house 13 = .ok (.aload_n 0, 1) := by decide +kernel
theorem dX10_house_14 : decode cX10_house 14 = .ok (.aload_n 0, 1) := by decide +kernel
theorem dX10_house_15 : decode cX10_house 15 = .ok (.getfield 9, 3) := by decide +kernel
theorem dX10_house_18 : decode cX10_house 18 = .ok (.iconst 1, 1) := by decide +kernel
theorem dX10_house_19 : decode cX10_house 19 = .ok (.iaload, 1) := by decide +kernel
theorem dX10_house_20 : decode cX10_house 20 = .ok (.putfield 79, 3) := by decide +kernel
theorem dX10_house_23 : decode cX10_house 23 = .ok (.aload_n 0, 1) := by decide +kernel
theorem dX10_house_24 : decode cX10_house 24 = .ok (.aload_n 0, 1) := by decide +kernel
theorem dX10_house_25 : decode cX10_house 25 = .ok (.getfield 9, 3) := by decide +kernel
theorem dX10_house_28 : decode cX10_house 28 = .ok (.iconst 3, 1) := by decide +kernel
theorem dX10_house_29 : decode cX10_house 29 = .ok (.iaload, 1) := by decide +kernel
theorem dX10_house_30 : decode cX10_house 30 = .ok (.putfield 55, 3) := by decide +kernel
theorem dX10_house_33 : decode cX10_house 33 = .ok (.aload_n 0, 1) := by decide +kernel
theorem dX10_house_34 : decode cX10_house 34 = .ok (.getfield 9, 3) := by decide +kernel
theorem dX10_house_37 : decode cX10_house 37 = .ok (.iconst 3, 1) := by decide +kernel
theorem dX10_house_38 : decode cX10_house 38 = .ok (.iconst 0, 1) := by decide +kernel
theorem dX10_house_39 : decode cX10_house 39 = .ok (.iastore, 1) := by decide +kernel
theorem dX10_house_40 : decode cX10_house 40 = .ok (.aload_n 0, 1) := by decide +kernel
theorem dX10_house_41 : decode cX10_house 41 = .ok (.getfield 9, 3) := by decide +kernel
theorem dX10_house_44 : decode cX10_house 44 = .ok (.sipush 336, 3) := by decide +kernel
theorem dX10_house_47 : decode cX10_house 47 = .ok (.aload_n 0, 1) := by decide +kernel
theorem dX10_house_48 : decode cX10_house 48 = .ok (.getfield 79, 3) := by decide +kernel
theorem dX10_house_51 : decode cX10_house 51 = .ok (.iadd, 1) := by decide +kernel
theorem dX10_house_52 : decode cX10_house 52 = .ok (.iconst 3, 1) := by decide +kernel
theorem dX10_house_53 : decode cX10_house 53 = .ok (.iastore, 1) := by decide +kernel
theorem dX10_house_54 : decode cX10_house 54 = .ok (.aload_n 0, 1) := by decide +kernel
theorem dX10_house_55 : decode cX10_house 55 = .ok (.getfield 9, 3) := by decide +kernel
theorem dX10_house_58 : decode cX10_house 58 = .ok (.sipush 341, 3) := by decide +kernel
theorem dX10_house_61 : decode cX10_house 61 = .ok (.aload_n 0, 1) := by decide +kernel
theorem dX10_house_62 : decode cX10_house 62 = .ok (.getfield 79, 3) := by decide +kernel
theorem dX10_house_65 : decode cX10_house 65 = .ok (.iadd, 1) := by decide +kernel
theorem dX10_house_66 : decode cX10_house 66 = .ok (.iconst 1, 1) := by decide +kernel
theorem dX10_house_67 : decode cX10_house 67 = .ok (.iastore, 1) := by decide +kernel
theorem dX10_house_68 : decode cX10_house 68 = .ok (.aload_n 0, 1) := by decide +kernel
theorem dX10_house_69 : decode cX10_house 69 = .ok (.getfield 9, 3) := by decide +kernel
theorem dX10_house_72 : decode cX10_house 72 = .ok (.sipush 346, 3) := by decide +kernel
theorem dX10_house_75 : decode cX10_house 75 = .ok (.aload_n 0, 1) := by decide +kernel
theorem dX10_house_76 : decode cX10_house 76 = .ok (.getfield 79, 3) := by decide +kernel
theorem dX10_house_79 : decode cX10_house 79 = .ok (.iadd, 1) := by decide +kernel
theorem dX10_house_80 : decode cX10_house 80 = .ok (.iconst 1, 1) := by decide +kernel
theorem dX10_house_81 : decode cX10_house 81 = .ok (.iastore, 1) := by decide +kernel
theorem dX10_house_82 : decode cX10_house 82 = .ok (.aload_n 0, 1) := by decide +kernel
theorem dX10_house_83 : decode cX10_house 83 = .ok (.getfield 9, 3) := by decide +kernel
theorem dX10_house_86 : decode cX10_house 86 = .ok (.sipush 351, 3) := by decide +kernel
theorem dX10_house_89 : decode cX10_house 89 = .ok (.aload_n 0, 1) := by decide +kernel
theorem dX10_house_90 : decode cX10_house 90 = .ok (.getfield 79, 3) := by decide +kernel
theorem dX10_house_93 : decode cX10_house 93 = .ok (.iadd, 1) := by decide +kernel
theorem dX10_house_94 : decode cX10_house 94 = .ok (.iconst 4, 1) := by decide +kernel
theorem dX10_house_95 : decode cX10_house 95 = .ok (.iastore, 1) := by decide +kernel
theorem dX10_house_96 : decode cX10_house 96 = .ok (.aload_n 0, 1) := by decide +kernel
theorem dX10_house_97 : decode cX10_house 97 = .ok (.getfield 9, 3) := by decide +kernel
theorem dX10_house_100 : decode cX10_house 100 = .ok (.sipush 356, 3) := by decide +kernel
theorem dX10_house_103 : decode cX10_house 103 = .ok (.aload_n 0, 1) := by decide +kernel
theorem dX10_house_104 : decode cX10_house 104 = .ok (.getfield 79, 3) := by decide +kernel
theorem dX10_house_107 : decode cX10_house 107 = .ok (.iadd, 1) := by decide +kernel
theorem dX10_house_108 : decode cX10_house 108 = .ok (.iconst 1, 1) := by decide +kernel
theorem dX10_house_109 : decode cX10_house 109 = .ok (.iastore, 1) := by decide +kernel
theorem dX10_house_110 : decode cX10_house 110 = .ok (.aload_n 0, 1) := by decide +kernel
theorem dX10_house_111 : decode cX10_house 111 = .ok (.getfield 9, 3) := by decide +kernel
theorem dX10_house_114 : decode cX10_house 114 = .ok (.sipush 361, 3) := by decide +kernel
theorem dX10_house_117 : decode cX10_house 117 = .ok (.aload_n 0, 1) := by decide +kernel
theorem dX10_house_118 : decode cX10_house 118 = .ok (.getfield 79, 3) := by decide +kernel
theorem dX10_house_121 : decode cX10_house 121 = .ok (.iadd, 1) := by decide +kernel
theorem dX10_house_122 : decode cX10_house 122 = .ok (.iconst 0, 1) := by decide +kernel
theorem dX10_house_123 : decode cX10_house 123 = .ok (.iastore, 1) := by decide +kernel
theorem dX10_house_124 : decode cX10_house 124 = .ok (.aload_n 0, 1) := by decide +kernel
theorem dX10_house_125 : decode cX10_house 125 = .ok (.iconst 0, 1) := by decide +kernel
theorem dX10_house_126 : decode cX10_house 126 = .ok (.putfield 52, 3) := by decide +kernel
theorem dX10_house_129 : decode cX10_house 129 = .ok (.aload_n 0, 1) := by decide +kernel
theorem dX10_house_130 : decode cX10_house 130 = .ok (.iconst 0, 1) := by decide +kernel
theorem dX10_house_131 : decode cX10_house 131 = .ok (.putfield 58, 3) := by decide +kernel
theorem dX10_house_134 : decode cX10_house 134 = .ok (.aload_n 0, 1) := by decide +kernel
theorem dX10_house_135 : decode cX10_house 135 = .ok (.iconst 0, 1) := by decide +kernel
theorem dX10_house_136 : decode cX10_house 136 = .ok (.putfield 82, 3) := by decide +kernel
theorem dX10_house_139 : decode cX10_house 139 = .ok (.iconst 1, 1) := by decide +kernel
theorem dX10_house_140 : decode cX10_house 140 = .ok (.istore_n 1, 1) := by decide +kernel
theorem dX10_house_141 : decode cX10_house 141 = .ok (.aload_n 0, 1) := by decide +kernel
theorem dX10_house_142 : decode cX10_house 142 = .ok (.invokevirtual 136, 3) := by decide +kernel
theorem dX10_house_145 : decode cX10_house 145 = .ok (.aload_n 0, 1) := by decide +kernel
theorem dX10_house_146 : decode cX10_house 146 = .ok (.getfield 58, 3) := by decide +kernel
theorem dX10_house_149 : decode cX10_house 149 = .ok (.ifCond .ne 38, 3) := by decide +kernel
theorem dX10_house_152 : decode cX10_house 152 = .ok (.iload_n 1, 1) := by decide +kernel
theorem dX10_house_153 : decode cX10_house 153 = .ok (.bipush 10, 2) := by decide +kernel
theorem dX10_house_155 : decode cX10_house 155 = .ok (.if_icmp .ge 32, 3) := by decide +kernel
theorem dX10_house_158 : decode cX10_house 158 = .ok (.aload_n 0, 1) := by decide +kernel
theorem dX10_house_159 : decode cX10_house 159 = .ok (.invokevirtual 62, 3) := by decide +kernel
theorem dX10_house_162 : decode cX10_house 162 = .ok (.bipush 59, 2) := by decide +kernel
theorem dX10_house_164 : decode cX10_house 164 = .ok (.if_icmp .ne 23, 3) := by decide +kernel
theorem dX10_house_167 : decode cX10_house 167 = .ok (.aload_n 0, 1) := by decide +kernel
theorem dX10_house_168 : decode cX10_house 168 = .ok (.dup, 1) := by decide +kernel
theorem dX10_house_169 : decode cX10_house 169 = .ok (.getfield 52, 3) := by decide +kernel
theorem dX10_house_172 : decode cX10_house 172 = .ok (.iconst 1, 1) := by decide +kernel
theorem dX10_house_173 : decode cX10_house 173 = .ok (.iadd, 1) := by decide +kernel
theorem dX10_house_174 : decode cX10_house 174 = .ok (.putfield 52, 3) := by decide +kernel
theorem dX10_house_177 : decode cX10_house 177 = .ok (.aload_n 0, 1) := by decide +kernel
theorem dX10_house_178 : decode cX10_house 178 = .ok (.invokevirtual 136, 3) := by decide +kernel
theorem dX10_house_181 : decode cX10_house 181 = .ok (.iinc 1 1, 3) := by decide +kernel
theorem dX10_house_184 : decode cX10_house 184 = .ok (.goto (-39), 3) := by decide +kernel
theorem dX10_house_187 : decode cX10_house 187 = .ok (.aload_n 0, 1) := by decide +kernel
theorem dX10_house_188 : decode cX10_house 188 = .ok (.getfield 58, 3) := by decide +kernel
theorem dX10_house_191 : decode cX10_house 191 = .ok (.ifCond .ne 14, 3) := by decide +kernel
theorem dX10_house_194 : decode cX10_house 194 = .ok (.aload_n 0, 1) := by decide +kernel
theorem dX10_house_195 : decode cX10_house 195 = .ok (.getfield 52, 3) := by decide +kernel
theorem dX10_house_198 : decode cX10_house 198 = .ok (.aload_n 0, 1) := by decide +kernel
theorem dX10_house_199 : decode cX10_house 199 = .ok (.getfield 55, 3) := by decide +kernel
theorem dX10_house_202 : decode cX10_house 202 = .ok (.if_icmp .eq 11, 3) := by decide +kernel
theorem dX10_house_205 : decode cX10_house 205 = .ok (.bipush (-10), 2) := by decide +kernel
theorem dX10_house_207 : decode cX10_house 207 = .ok (.aload_n 0, 1) := by decide +kernel
theorem dX10_house_208 : decode cX10_house 208 = .ok (.getfield 52, 3) := by decide +kernel
theorem dX10_house_211 : decode cX10_house 211 = .ok (.isub, 1) := by decide +kernel
theorem dX10_house_212 : decode cX10_house 212 = .ok (.ireturn, 1) := by decide +kernel
theorem dX10_house_213 : decode cX10_house 213 = .ok (.aload_n 0, 1) := by decide +kernel
theorem dX10_house_214 : decode cX10_house 214 = .ok (.getfield 9, 3) := by decide +kernel
theorem dX10_house_217 : decode cX10_house 217 = .ok (.iconst 1, 1) := by decide +kernel
theorem dX10_house_218 : decode cX10_house 218 = .ok (.dup2, 1) := by decide +kernel
theorem dX10_house_219 : decode cX10_house 219 = .ok (.iaload, 1) := by decide +kernel
theorem dX10_house_220 : decode cX10_house 220 = .ok (.iconst 1, 1) := by decide +kernel
theorem dX10_house_221 : decode cX10_house 221 = .ok (.iadd, 1) := by decide +kernel
theorem dX10_house_222 : decode cX10_house 222 = .ok (.iastore, 1) := by decide +kernel
theorem dX10_house_223 : decode cX10_house 223 = .ok (.aload_n 0, 1) := by decide +kernel
theorem dX10_house_224 : decode cX10_house 224 = .ok (.getfield 9, 3) := by decide +kernel
theorem dX10_house_227 : decode cX10_house 227 = .ok (.iconst 4, 1) := by decide +kernel
theorem dX10_house_228 : decode cX10_house 228 = .ok (.aload_n 0, 1) := by decide +kernel
theorem dX10_house_229 : decode cX10_house 229 = .ok (.getfield 79, 3) := by decide +kernel
theorem dX10_house_232 : decode cX10_house 232 = .ok (.iastore, 1) := by decide +kernel
theorem dX10_house_233 : decode cX10_house 233 = .ok (.aload_n 0, 1) := by decide +kernel
theorem dX10_house_234 : decode cX10_house 234 = .ok (.getfield 79, 3) := by decide +kernel
theorem dX10_house_237 : decode cX10_house 237 = .ok (.ireturn, 1) := by decide +kernel
theorem dX10_tellsOf_0 : decode cX10_tellsOf 0 = .ok (.aload_n 0, 1) := by decide +kernel
theorem dX10_tellsOf_1 : decode cX10_tellsOf 1 = .ok (.getfield 9, 3) := by decide +kernel
theorem dX10_tellsOf_4 : decode cX10_tellsOf 4 = .ok (.iconst 4, 1) := by decide +kernel
theorem dX10_tellsOf_5 : decode cX10_tellsOf 5 = .ok (.iaload, 1) := by decide +kernel
theorem dX10_tellsOf_6 : decode cX10_tellsOf 6 = .ok (.iconst (-1), 1) := by decide +kernel
theorem dX10_tellsOf_7 : decode cX10_tellsOf 7 = .ok (.if_icmp .ne 7, 3) := by decide +kernel
theorem dX10_tellsOf_10 : decode cX10_tellsOf 10 = .ok (.iload_n 2, 1) := by decide +kernel
theorem dX10_tellsOf_11 : decode cX10_tellsOf 11 = .ok (.goto 16, 3) := by decide +kernel
theorem dX10_tellsOf_14 : decode cX10_tellsOf 14 = .ok (.aload_n 0, 1) := by decide +kernel
theorem dX10_tellsOf_15 : decode cX10_tellsOf 15 = .ok (.getfield 9, 3) := by decide +kernel
theorem dX10_tellsOf_18 : decode cX10_tellsOf 18 = .ok (.iload_n 1, 1) := by decide +kernel
theorem dX10_tellsOf_19 : decode cX10_tellsOf 19 = .ok (.aload_n 0, 1) := by decide +kernel
theorem dX10_tellsOf_20 : decode cX10_tellsOf 20 = .ok (.getfield 9, 3) := by decide +kernel
theorem dX10_tellsOf_23 : decode cX10_tellsOf 23 = .ok (.iconst 4, 1) := by decide +kernel
theorem dX10_tellsOf_24 : decode cX10_tellsOf 24 = .ok (.iaload, 1) := by decide +kernel
theorem dX10_tellsOf_25 : decode cX10_tellsOf 25 = .ok (.iadd, 1) := by decide +kernel
theorem dX10_tellsOf_26 : decode cX10_tellsOf 26 = .ok (.iaload, 1) := by decide +kernel
theorem dX10_tellsOf_27 : decode cX10_tellsOf 27 = .ok (.ireturn, 1) := by decide +kernel
theorem dX10_told_0 : decode cX10_told 0 = .ok (.iload_n 1, 1) := by decide +kernel
theorem dX10_told_1 : decode cX10_told 1 = .ok (.tableswitch 80 0 4 #[35, 44, 53, 62, 71], 35) := by decide +kernel
theorem dX10_told_36 : decode cX10_told 36 = .ok (.aload_n 0, 1) := by decide +kernel
theorem dX10_told_37 : decode cX10_told 37 = .ok (.sipush 336, 3) := by decide +kernel
theorem dX10_told_40 : decode cX10_told 40 = .ok (.iconst 3, 1) := by decide +kernel
theorem dX10_told_41 : decode cX10_told 41 = .ok (.invokevirtual 139, 3) := by decide +kernel
theorem dX10_told_44 : decode cX10_told 44 = .ok (.ireturn, 1) := by decide +kernel
theorem dX10_told_45 : decode cX10_told 45 = .ok (.aload_n 0, 1) := by decide +kernel
theorem dX10_told_46 : decode cX10_told 46 = .ok (.sipush 341, 3) := by decide +kernel
theorem dX10_told_49 : decode cX10_told 49 = .ok (.iconst 1, 1) := by decide +kernel
theorem dX10_told_50 : decode cX10_told 50 = .ok (.invokevirtual 139, 3) := by decide +kernel
theorem dX10_told_53 : decode cX10_told 53 = .ok (.ireturn, 1) := by decide +kernel
theorem dX10_told_54 : decode cX10_told 54 = .ok (.aload_n 0, 1) := by decide +kernel
theorem dX10_told_55 : decode cX10_told 55 = .ok (.sipush 346, 3) := by decide +kernel
theorem dX10_told_58 : decode cX10_told 58 = .ok (.iconst 1, 1) := by decide +kernel
theorem dX10_told_59 : decode cX10_told 59 = .ok (.invokevirtual 139, 3) := by decide +kernel
theorem dX10_told_62 : decode cX10_told 62 = .ok (.ireturn, 1) := by decide +kernel
theorem dX10_told_63 : decode cX10_told 63 = .ok (.aload_n 0, 1) := by decide +kernel
theorem dX10_told_64 : decode cX10_told 64 = .ok (.sipush 351, 3) := by decide +kernel
theorem dX10_told_67 : decode cX10_told 67 = .ok (.iconst 4, 1) := by decide +kernel
theorem dX10_told_68 : decode cX10_told 68 = .ok (.invokevirtual 139, 3) := by decide +kernel
theorem dX10_told_71 : decode cX10_told 71 = .ok (.ireturn, 1) := by decide +kernel
theorem dX10_told_72 : decode cX10_told 72 = .ok (.aload_n 0, 1) := by decide +kernel
theorem dX10_told_73 : decode cX10_told 73 = .ok (.sipush 356, 3) := by decide +kernel
theorem dX10_told_76 : decode cX10_told 76 = .ok (.iconst 1, 1) := by decide +kernel
theorem dX10_told_77 : decode cX10_told 77 = .ok (.invokevirtual 139, 3) := by decide +kernel
theorem dX10_told_80 : decode cX10_told 80 = .ok (.ireturn, 1) := by decide +kernel
theorem dX10_told_81 : decode cX10_told 81 = .ok (.iconst (-1), 1) := by decide +kernel
theorem dX10_told_82 : decode cX10_told 82 = .ok (.ireturn, 1) := by decide +kernel
theorem dX10_looksAt_0 : decode cX10_looksAt 0 = .ok (.aload_n 0, 1) := by decide +kernel
theorem dX10_looksAt_1 : decode cX10_looksAt 1 = .ok (.getfield 18, 3) := by decide +kernel
theorem dX10_looksAt_4 : decode cX10_looksAt 4 = .ok (.iconst 0, 1) := by decide +kernel
theorem dX10_looksAt_5 : decode cX10_looksAt 5 = .ok (.iload_n 1, 1) := by decide +kernel
theorem dX10_looksAt_6 : decode cX10_looksAt 6 = .ok (.iastore, 1) := by decide +kernel
theorem dX10_looksAt_7 : decode cX10_looksAt 7 = .ok (.aload_n 0, 1) := by decide +kernel
theorem dX10_looksAt_8 : decode cX10_looksAt 8 = .ok (.getfield 18, 3) := by decide +kernel
theorem dX10_looksAt_11 : decode cX10_looksAt 11 = .ok (.iconst 1, 1) := by decide +kernel
theorem dX10_looksAt_12 : decode cX10_looksAt 12 = .ok (.aload_n 0, 1) := by decide +kernel
theorem dX10_looksAt_13 : decode cX10_looksAt 13 = .ok (.getfield 9, 3) := by decide +kernel
theorem dX10_looksAt_16 : decode cX10_looksAt 16 = .ok (.sipush 260, 3) := by decide +kernel
theorem dX10_looksAt_19 : decode cX10_looksAt 19 = .ok (.iload_n 1, 1) := by decide +kernel
theorem dX10_looksAt_20 : decode cX10_looksAt 20 = .ok (.iadd, 1) := by decide +kernel
theorem dX10_looksAt_21 : decode cX10_looksAt 21 = .ok (.iaload, 1) := by decide +kernel
theorem dX10_looksAt_22 : decode cX10_looksAt 22 = .ok (.iastore, 1) := by decide +kernel
theorem dX10_looksAt_23 : decode cX10_looksAt 23 = .ok (.aload_n 0, 1) := by decide +kernel
theorem dX10_looksAt_24 : decode cX10_looksAt 24 = .ok (.getfield 18, 3) := by decide +kernel
theorem dX10_looksAt_27 : decode cX10_looksAt 27 = .ok (.iconst 2, 1) := by decide +kernel
theorem dX10_looksAt_28 : decode cX10_looksAt 28 = .ok (.aload_n 0, 1) := by decide +kernel
theorem dX10_looksAt_29 : decode cX10_looksAt 29 = .ok (.getfield 9, 3) := by decide +kernel
theorem dX10_looksAt_32 : decode cX10_looksAt 32 = .ok (.sipush 250, 3) := by decide +kernel
theorem dX10_looksAt_35 : decode cX10_looksAt 35 = .ok (.iload_n 1, 1) := by decide +kernel
theorem dX10_looksAt_36 : decode cX10_looksAt 36 = .ok (.iadd, 1) := by decide +kernel
theorem dX10_looksAt_37 : decode cX10_looksAt 37 = .ok (.iaload, 1) := by decide +kernel
theorem dX10_looksAt_38 : decode cX10_looksAt 38 = .ok (.iastore, 1) := by decide +kernel
theorem dX10_looksAt_39 : decode cX10_looksAt 39 = .ok (.aload_n 0, 1) := by decide +kernel
theorem dX10_looksAt_40 : decode cX10_looksAt 40 = .ok (.getfield 18, 3) := by decide +kernel
theorem dX10_looksAt_43 : decode cX10_looksAt 43 = .ok (.iconst 3, 1) := by decide +kernel
theorem dX10_looksAt_44 : decode cX10_looksAt 44 = .ok (.aload_n 0, 1) := by decide +kernel
theorem dX10_looksAt_45 : decode cX10_looksAt 45 = .ok (.getfield 9, 3) := by decide +kernel
theorem dX10_looksAt_48 : decode cX10_looksAt 48 = .ok (.sipush 270, 3) := by decide +kernel
theorem dX10_looksAt_51 : decode cX10_looksAt 51 = .ok (.iload_n 1, 1) := by decide +kernel
theorem dX10_looksAt_52 : decode cX10_looksAt 52 = .ok (.iadd, 1) := by decide +kernel
theorem dX10_looksAt_53 : decode cX10_looksAt 53 = .ok (.iaload, 1) := by decide +kernel
theorem dX10_looksAt_54 : decode cX10_looksAt 54 = .ok (.iastore, 1) := by decide +kernel
theorem dX10_looksAt_55 : decode cX10_looksAt 55 = .ok (.aload_n 0, 1) := by decide +kernel
theorem dX10_looksAt_56 : decode cX10_looksAt 56 = .ok (.getfield 18, 3) := by decide +kernel
theorem dX10_looksAt_59 : decode cX10_looksAt 59 = .ok (.iconst 4, 1) := by decide +kernel
theorem dX10_looksAt_60 : decode cX10_looksAt 60 = .ok (.iload_n 2, 1) := by decide +kernel
theorem dX10_looksAt_61 : decode cX10_looksAt 61 = .ok (.iastore, 1) := by decide +kernel
theorem dX10_looksAt_62 : decode cX10_looksAt 62 = .ok (.aload_n 0, 1) := by decide +kernel
theorem dX10_looksAt_63 : decode cX10_looksAt 63 = .ok (.iconst 0, 1) := by decide +kernel
theorem dX10_looksAt_64 : decode cX10_looksAt 64 = .ok (.putfield 143, 3) := by decide +kernel
theorem dX10_looksAt_67 : decode cX10_looksAt 67 = .ok (.aload_n 0, 1) := by decide +kernel
theorem dX10_looksAt_68 : decode cX10_looksAt 68 = .ok (.iconst 0, 1) := by decide +kernel
theorem dX10_looksAt_69 : decode cX10_looksAt 69 = .ok (.putfield 146, 3) := by decide +kernel
theorem dX10_looksAt_72 : decode cX10_looksAt 72 = .ok (.aload_n 0, 1) := by decide +kernel
theorem dX10_looksAt_73 : decode cX10_looksAt 73 = .ok (.iconst 0, 1) := by decide +kernel
theorem dX10_looksAt_74 : decode cX10_looksAt 74 = .ok (.putfield 149, 3) := by decide +kernel
theorem dX10_looksAt_77 : decode cX10_looksAt 77 = .ok (.aload_n 0, 1) := by decide +kernel
theorem dX10_looksAt_78 : decode cX10_looksAt 78 = .ok (.sipush 361, 3) := by decide +kernel
theorem dX10_looksAt_81 : decode cX10_looksAt 81 = .ok (.iconst 0, 1) := by decide +kernel
theorem dX10_looksAt_82 : decode cX10_looksAt 82 = .ok (.invokevirtual 139, 3) := by decide +kernel
theorem dX10_looksAt_85 : decode cX10_looksAt 85 = .ok (.istore_n 3, 1) := by decide +kernel
theorem dX10_looksAt_86 : decode cX10_looksAt 86 = .ok (.sipush 366, 3) := by decide +kernel
theorem dX10_looksAt_89 : decode cX10_looksAt 89 = .ok (.sipush 140, 3) := by decide +kernel
theorem dX10_looksAt_92 : decode cX10_looksAt 92 = .ok (.aload_n 0, 1) := by decide +kernel
theorem dX10_looksAt_93 : decode cX10_looksAt 93 = .ok (.getfield 9, 3) := by decide +kernel
theorem dX10_looksAt_96 : decode cX10_looksAt 96 = .ok (.iconst 4, 1) := by decide +kernel
theorem dX10_looksAt_97 : decode cX10_looksAt 97 = .ok (.iaload, 1) := by decide +kernel
theorem dX10_looksAt_98 : decode cX10_looksAt 98 = .ok (.imul, 1) := by decide +kernel
theorem dX10_looksAt_99 : decode cX10_looksAt 99 = .ok (.iadd, 1) := by decide +kernel
theorem dX10_looksAt_100 : decode cX10_looksAt 100 = .ok (.istore 4, 2) := by decide +kernel
theorem dX10_looksAt_102 : decode cX10_looksAt 102 = .ok (.iconst 0, 1) := by decide +kernel
theorem dX10_looksAt_103 : decode cX10_looksAt 103 = .ok (.istore 5, 2) := by decide +kernel
theorem dX10_looksAt_105 : decode cX10_looksAt 105 = .ok (.iload 4, 2) := by decide +kernel
theorem dX10_looksAt_107 : decode cX10_looksAt 107 = .ok (.istore 6, 2) := by decide +kernel
theorem dX10_looksAt_109 : decode cX10_looksAt 109 = .ok (.iload 6, 2) := by decide +kernel
theorem dX10_looksAt_111 : decode cX10_looksAt 111 = .ok (.iload 4, 2) := by decide +kernel
theorem dX10_looksAt_113 : decode cX10_looksAt 113 = .ok (.iload_n 3, 1) := by decide +kernel
theorem dX10_looksAt_114 : decode cX10_looksAt 114 = .ok (.iadd, 1) := by decide +kernel
theorem dX10_looksAt_115 : decode cX10_looksAt 115 = .ok (.if_icmp .ge 337, 3) := by decide +kernel
theorem dX10_looksAt_118 : decode cX10_looksAt 118 = .ok (.aload_n 0, 1) := by decide +kernel
theorem dX10_looksAt_119 : decode cX10_looksAt 119 = .ok (.getfield 9, 3) := by decide +kernel
theorem dX10_looksAt_122 : decode cX10_looksAt 122 = .ok (.iload 6, 2) := by decide +kernel
theorem dX10_looksAt_124 : decode cX10_looksAt 124 = .ok (.iaload, 1) := by decide +kernel
theorem dX10_looksAt_125 : decode cX10_looksAt 125 = .ok (.istore 7, 2) := by decide +kernel
theorem dX10_looksAt_127 : decode cX10_looksAt 127 = .ok (.iload 7, 2) := by decide +kernel
theorem dX10_looksAt_129 : decode cX10_looksAt 129 = .ok (.ifCond .lt 97, 3) := by decide +kernel
theorem dX10_looksAt_132 : decode cX10_looksAt 132 = .ok (.aload_n 0, 1) := by decide +kernel
theorem dX10_looksAt_133 : decode cX10_looksAt 133 = .ok (.getfield 18, 3) := by decide +kernel
theorem dX10_looksAt_136 : decode cX10_looksAt 136 = .ok (.iload 7, 2) := by decide +kernel
theorem dX10_looksAt_138 : decode cX10_looksAt 138 = .ok (.bipush 8, 2) := by decide +kernel
theorem dX10_looksAt_140 : decode cX10_looksAt 140 = .ok (.irem, 1) := by decide +kernel
theorem dX10_looksAt_141 : decode cX10_looksAt 141 = .ok (.iaload, 1) := by decide +kernel
theorem dX10_looksAt_142 : decode cX10_looksAt 142 = .ok (.istore 8, 2) := by decide +kernel
theorem dX10_looksAt_144 : decode cX10_looksAt 144 = .ok (.iload 7, 2) := by decide +kernel
theorem dX10_looksAt_146 : decode cX10_looksAt 146 = .ok (.bipush 8, 2) := by decide +kernel
theorem dX10_looksAt_148 : decode cX10_looksAt 148 = .ok (.idiv, 1) := by decide +kernel
theorem dX10_looksAt_149 : decode cX10_looksAt 149 = .ok (.iconst 4, 1) := by decide +kernel
theorem dX10_looksAt_150 : decode cX10_looksAt 150 = .ok (.irem, 1) := by decide +kernel
theorem dX10_looksAt_151 : decode cX10_looksAt 151 = .ok (.istore 9, 2) := by decide +kernel
theorem dX10_looksAt_153 : decode cX10_looksAt 153 = .ok (.iload 7, 2) := by decide +kernel
theorem dX10_looksAt_155 : decode cX10_looksAt 155 = .ok (.bipush 32, 2) := by decide +kernel
theorem dX10_looksAt_157 : decode cX10_looksAt 157 = .ok (.idiv, 1) := by decide +kernel
theorem dX10_looksAt_158 : decode cX10_looksAt 158 = .ok (.istore 10, 2) := by decide +kernel
theorem dX10_looksAt_160 : decode cX10_looksAt 160 = .ok (.aload_n 0, 1) := by decide +kernel
theorem dX10_looksAt_161 : decode cX10_looksAt 161 = .ok (.getfield 21, 3) := by decide +kernel
theorem dX10_looksAt_164 : decode cX10_looksAt 164 = .ok (.iload 5, 2) := by decide +kernel
theorem dX10_looksAt_166 : decode cX10_looksAt 166 = .ok (.iload 9, 2) := by decide +kernel
theorem dX10_looksAt_168 : decode cX10_looksAt 168 = .ok (.ifCond .ne 18, 3) := by decide +kernel
theorem dX10_looksAt_171 : decode cX10_looksAt 171 = .ok (.iload 8, 2) := by decide +kernel
theorem dX10_looksAt_173 : decode cX10_looksAt 173 = .ok (.iload 10, 2) := by decide +kernel
theorem dX10_looksAt_175 : decode cX10_looksAt 175 = .ok (.if_icmp .ge 7, 3) := by decide +kernel
theorem dX10_looksAt_178 : decode cX10_looksAt 178 = .ok (.iconst 1, 1) := by decide +kernel
theorem dX10_looksAt_179 : decode cX10_looksAt 179 = .ok (.goto 40, 3) := by decide +kernel
theorem dX10_looksAt_182 : decode cX10_looksAt 182 = .ok (.iconst 0, 1) := by decide +kernel
theorem dX10_looksAt_183 : decode cX10_looksAt 183 = .ok (.goto 36, 3) := by decide +kernel
theorem dX10_looksAt_186 : decode cX10_looksAt 186 = .ok (.iload 9, 2) := by decide +kernel
theorem dX10_looksAt_188 : decode cX10_looksAt 188 = .ok (.iconst 1, 1) := by decide +kernel
theorem dX10_looksAt_189 : decode cX10_looksAt 189 = .ok (.if_icmp .ne 18, 3) := by decide +kernel
theorem dX10_looksAt_192 : decode cX10_looksAt 192 = .ok (.iload 8, 2) := by decide +kernel
theorem dX10_looksAt_194 : decode cX10_looksAt 194 = .ok (.iload 10, 2) := by decide +kernel
theorem dX10_looksAt_196 : decode cX10_looksAt 196 = .ok (.if_icmp .ne 7, 3) := by decide +kernel
theorem dX10_looksAt_199 : decode cX10_looksAt 199 = .ok (.iconst 1, 1) := by decide +kernel
theorem dX10_looksAt_200 : decode cX10_looksAt 200 = .ok (.goto 19, 3) := by decide +kernel
theorem dX10_looksAt_203 : decode cX10_looksAt 203 = .ok (.iconst 0, 1) := by decide +kernel
theorem dX10_looksAt_204 : decode cX10_looksAt 204 = .ok (.goto 15, 3) := by decide +kernel
theorem dX10_looksAt_207 : decode cX10_looksAt 207 = .ok (.iload 8, 2) := by decide +kernel
theorem dX10_looksAt_209 : decode cX10_looksAt 209 = .ok (.iload 10, 2) := by decide +kernel
theorem dX10_looksAt_211 : decode cX10_looksAt 211 = .ok (.if_icmp .le 7, 3) := by decide +kernel
theorem dX10_looksAt_214 : decode cX10_looksAt 214 = .ok (.iconst 1, 1) := by decide +kernel
theorem dX10_looksAt_215 : decode cX10_looksAt 215 = .ok (.goto 4, 3) := by decide +kernel
theorem dX10_looksAt_218 : decode cX10_looksAt 218 = .ok (.iconst 0, 1) := by decide +kernel
theorem dX10_looksAt_219 : decode cX10_looksAt 219 = .ok (.bastore, 1) := by decide +kernel
theorem dX10_looksAt_220 : decode cX10_looksAt 220 = .ok (.iinc 5 1, 3) := by decide +kernel
theorem dX10_looksAt_223 : decode cX10_looksAt 223 = .ok (.goto 223, 3) := by decide +kernel
theorem dX10_looksAt_226 : decode cX10_looksAt 226 = .ok (.iload 7, 2) := by decide +kernel
theorem dX10_looksAt_228 : decode cX10_looksAt 228 = .ok (.iconst (-1), 1) := by decide +kernel
theorem dX10_looksAt_229 : decode cX10_looksAt 229 = .ok (.if_icmp .ne 32, 3) := by decide +kernel
theorem dX10_looksAt_232 : decode cX10_looksAt 232 = .ok (.aload_n 0, 1) := by decide +kernel
theorem dX10_looksAt_233 : decode cX10_looksAt 233 = .ok (.getfield 21, 3) := by decide +kernel
theorem dX10_looksAt_236 : decode cX10_looksAt 236 = .ok (.iload 5, 2) := by decide +kernel
theorem dX10_looksAt_238 : decode cX10_looksAt 238 = .ok (.iconst 1, 1) := by decide +kernel
theorem dX10_looksAt_239 : decode cX10_looksAt 239 = .ok (.isub, 1) := by decide +kernel
theorem dX10_looksAt_240 : decode cX10_looksAt 240 = .ok (.aload_n 0, 1) := by decide +kernel
theorem dX10_looksAt_241 : decode cX10_looksAt 241 = .ok (.getfield 21, 3) := by decide +kernel
theorem dX10_looksAt_244 : decode cX10_looksAt 244 = .ok (.iload 5, 2) := by decide +kernel
theorem dX10_looksAt_246 : decode cX10_looksAt 246 = .ok (.iconst 1, 1) := by decide +kernel
theorem dX10_looksAt_247 : decode cX10_looksAt 247 = .ok (.isub, 1) := by decide +kernel
theorem dX10_looksAt_248 : decode cX10_looksAt 248 = .ok (.baload, 1) := by decide +kernel
theorem dX10_looksAt_249 : decode cX10_looksAt 249 = .ok (.ifCond .ne 7, 3) := by decide +kernel
theorem dX10_looksAt_252 : decode cX10_looksAt 252 = .ok (.iconst 1, 1) := by decide +kernel
theorem dX10_looksAt_253 : decode cX10_looksAt 253 = .ok (.goto 4, 3) := by decide +kernel
theorem dX10_looksAt_256 : decode cX10_looksAt 256 = .ok (.iconst 0, 1) := by decide +kernel
theorem dX10_looksAt_257 : decode cX10_looksAt 257 = .ok (.bastore, 1) := by decide +kernel
theorem dX10_looksAt_258 : decode cX10_looksAt 258 = .ok (.goto 188, 3) := by decide +kernel
theorem dX10_looksAt_261 : decode cX10_looksAt 261 = .ok (.iload 7, 2) := by decide +kernel
theorem dX10_looksAt_263 : decode cX10_looksAt 263 = .ok (.bipush (-10), 2) := by decide +kernel
theorem dX10_looksAt_265 : decode cX10_looksAt 265 = .ok (.if_icmp .le 82, 3) := by decide +kernel
theorem dX10_looksAt_268 : decode cX10_looksAt 268 = .ok (.iinc 5 (-1), 3) := by decide +kernel
theorem dX10_looksAt_271 : decode cX10_looksAt 271 = .ok (.aload_n 0, 1) := by decide +kernel
theorem dX10_looksAt_272 : decode cX10_looksAt 272 = .ok (.getfield 21, 3) := by decide +kernel
theorem dX10_looksAt_275 : decode cX10_looksAt 275 = .ok (.iload 5, 2) := by decide +kernel
theorem dX10_looksAt_277 : decode cX10_looksAt 277 = .ok (.iconst 1, 1) := by decide +kernel
theorem dX10_looksAt_278 : decode cX10_looksAt 278 = .ok (.isub, 1) := by decide +kernel
theorem dX10_looksAt_279 : decode cX10_looksAt 279 = .ok (.iload 7, 2) := by decide +kernel
theorem dX10_looksAt_281 : decode cX10_looksAt 281 = .ok (.bipush (-2), 2) := by decide +kernel
theorem dX10_looksAt_283 : decode cX10_looksAt 283 = .ok (.if_icmp .ne 33, 3) := by decide +kernel
theorem dX10_looksAt_286 : decode cX10_looksAt 286 = .ok (.aload_n 0, 1) := by decide +kernel
theorem dX10_looksAt_287 : decode cX10_looksAt 287 = .ok (.getfield 21, 3) := by decide +kernel
theorem dX10_looksAt_290 : decode cX10_looksAt 290 = .ok (.iload 5, 2) := by decide +kernel
theorem dX10_looksAt_292 : decode cX10_looksAt 292 = .ok (.iconst 1, 1) := by decide +kernel
theorem dX10_looksAt_293 : decode cX10_looksAt 293 = .ok (.isub, 1) := by decide +kernel
theorem dX10_looksAt_294 : decode cX10_looksAt 294 = .ok (.baload, 1) := by decide +kernel
theorem dX10_looksAt_295 : decode cX10_looksAt 295 = .ok (.ifCond .eq 17, 3) := by decide +kernel
theorem dX10_looksAt_298 : decode cX10_looksAt 298 = .ok (.aload_n 0, 1) := by decide +kernel
theorem dX10_looksAt_299 : decode cX10_looksAt 299 = .ok (.getfield 21, 3) := by decide +kernel
theorem dX10_looksAt_302 : decode cX10_looksAt 302 = .ok (.iload 5, 2) := by decide +kernel
theorem dX10_looksAt_304 : decode cX10_looksAt 304 = .ok (.baload, 1) := by decide +kernel
theorem dX10_looksAt_305 : decode cX10_looksAt 305 = .ok (.ifCond .eq 7, 3) := by decide +kernel
theorem dX10_looksAt_308 : decode cX10_looksAt 308 = .ok (.iconst 1, 1) := by decide +kernel
theorem dX10_looksAt_309 : decode cX10_looksAt 309 = .ok (.goto 34, 3) := by decide +kernel
theorem dX10_looksAt_312 : decode cX10_looksAt 312 = .ok (.iconst 0, 1) := by decide +kernel
theorem dX10_looksAt_313 : decode cX10_looksAt 313 = .ok (.goto 30, 3) := by decide +kernel
theorem dX10_looksAt_316 : decode cX10_looksAt 316 = .ok (.aload_n 0, 1) := by decide +kernel
theorem dX10_looksAt_317 : decode cX10_looksAt 317 = .ok (.getfield 21, 3) := by decide +kernel
theorem dX10_looksAt_320 : decode cX10_looksAt 320 = .ok (.iload 5, 2) := by decide +kernel
theorem dX10_looksAt_322 : decode cX10_looksAt 322 = .ok (.iconst 1, 1) := by decide +kernel
theorem dX10_looksAt_323 : decode cX10_looksAt 323 = .ok (.isub, 1) := by decide +kernel
theorem dX10_looksAt_324 : decode cX10_looksAt 324 = .ok (.baload, 1) := by decide +kernel
theorem dX10_looksAt_325 : decode cX10_looksAt 325 = .ok (.ifCond .ne 13, 3) := by decide +kernel
theorem dX10_looksAt_328 : decode cX10_looksAt 328 = .ok (.aload_n 0, 1) := by decide +kernel
theorem dX10_looksAt_329 : decode cX10_looksAt 329 = .ok (.getfield 21, 3) := by decide +kernel
theorem dX10_looksAt_332 : decode cX10_looksAt 332 = .ok (.iload 5, 2) := by decide +kernel
theorem dX10_looksAt_334 : decode cX10_looksAt 334 = .ok (.baload, 1) := by decide +kernel
theorem dX10_looksAt_335 : decode cX10_looksAt 335 = .ok (.ifCond .eq 7, 3) := by decide +kernel
theorem dX10_looksAt_338 : decode cX10_looksAt 338 = .ok (.iconst 1, 1) := by decide +kernel
theorem dX10_looksAt_339 : decode cX10_looksAt 339 = .ok (.goto 4, 3) := by decide +kernel
theorem dX10_looksAt_342 : decode cX10_looksAt 342 = .ok (.iconst 0, 1) := by decide +kernel
theorem dX10_looksAt_343 : decode cX10_looksAt 343 = .ok (.bastore, 1) := by decide +kernel
theorem dX10_looksAt_344 : decode cX10_looksAt 344 = .ok (.goto 102, 3) := by decide +kernel
theorem dX10_looksAt_347 : decode cX10_looksAt 347 = .ok (.iconst 0, 1) := by decide +kernel
theorem dX10_looksAt_348 : decode cX10_looksAt 348 = .ok (.istore 5, 2) := by decide +kernel
theorem dX10_looksAt_350 : decode cX10_looksAt 350 = .ok (.aload_n 0, 1) := by decide +kernel
theorem dX10_looksAt_351 : decode cX10_looksAt 351 = .ok (.aload_n 0, 1) := by decide +kernel
theorem dX10_looksAt_352 : decode cX10_looksAt 352 = .ok (.getfield 149, 3) := by decide +kernel
theorem dX10_looksAt_355 : decode cX10_looksAt 355 = .ok (.ifCond .ne 12, 3) := by decide +kernel
theorem dX10_looksAt_358 : decode cX10_looksAt 358 = .ok (.aload_n 0, 1) := by decide +kernel
theorem dX10_looksAt_359 : decode cX10_looksAt 359 = .ok (.getfield 21, 3) := by decide +kernel
theorem dX10_looksAt_362 : decode cX10_looksAt 362 = .ok (.iconst 0, 1) := by decide +kernel
theorem dX10_looksAt_363 : decode cX10_looksAt 363 = .ok (.baload, 1) := by decide +kernel
theorem dX10_looksAt_364 : decode cX10_looksAt 364 = .ok (.ifCond .eq 7, 3) := by decide +kernel
theorem dX10_looksAt_367 : decode cX10_looksAt 367 = .ok (.iconst 1, 1) := by decide +kernel
theorem dX10_looksAt_368 : decode cX10_looksAt 368 = .ok (.goto 4, 3) := by decide +kernel
theorem dX10_looksAt_371 : decode cX10_looksAt 371 = .ok (.iconst 0, 1) := by decide +kernel
theorem dX10_looksAt_372 : decode cX10_looksAt 372 = .ok (.putfield 149, 3) := by decide +kernel
theorem dX10_looksAt_375 : decode cX10_looksAt 375 = .ok (.aload_n 0, 1) := by decide +kernel
theorem dX10_looksAt_376 : decode cX10_looksAt 376 = .ok (.dup, 1) := by decide +kernel
theorem dX10_looksAt_377 : decode cX10_looksAt 377 = .ok (.getfield 143, 3) := by decide +kernel
theorem dX10_looksAt_380 : decode cX10_looksAt 380 = .ok (.aload_n 0, 1) := by decide +kernel
theorem dX10_looksAt_381 : decode cX10_looksAt 381 = .ok (.getfield 21, 3) := by decide +kernel
theorem dX10_looksAt_384 : decode cX10_looksAt 384 = .ok (.iconst 0, 1) := by decide +kernel
theorem dX10_looksAt_385 : decode cX10_looksAt 385 = .ok (.baload, 1) := by decide +kernel
theorem dX10_looksAt_386 : decode cX10_looksAt 386 = .ok (.ifCond .eq 19, 3) := by decide +kernel
theorem dX10_looksAt_389 : decode cX10_looksAt 389 = .ok (.iload 7, 2) := by decide +kernel
theorem dX10_looksAt_391 : decode cX10_looksAt 391 = .ok (.sipush (-200), 3) := by decide +kernel
theorem dX10_looksAt_394 : decode cX10_looksAt 394 = .ok (.if_icmp .le 11, 3) := by decide +kernel
theorem dX10_looksAt_397 : decode cX10_looksAt 397 = .ok (.bipush (-10), 2) := by decide +kernel
theorem dX10_looksAt_399 : decode cX10_looksAt 399 = .ok (.iload 7, 2) := by decide +kernel
theorem dX10_looksAt_401 : decode cX10_looksAt 401 = .ok (.isub, 1) := by decide +kernel
theorem dX10_looksAt_402 : decode cX10_looksAt 402 = .ok (.goto 4, 3) := by decide +kernel
theorem dX10_looksAt_405 : decode cX10_looksAt 405 = .ok (.iconst 0, 1) := by decide +kernel
theorem dX10_looksAt_406 : decode cX10_looksAt 406 = .ok (.iadd, 1) := by decide +kernel
theorem dX10_looksAt_407 : decode cX10_looksAt 407 = .ok (.putfield 143, 3) := by decide +kernel
theorem dX10_looksAt_410 : decode cX10_looksAt 410 = .ok (.aload_n 0, 1) := by decide +kernel
theorem dX10_looksAt_411 : decode cX10_looksAt 411 = .ok (.dup, 1) := by decide +kernel
theorem dX10_looksAt_412 : decode cX10_looksAt 412 = .ok (.getfield 146, 3) := by decide +kernel
theorem dX10_looksAt_415 : decode cX10_looksAt 415 = .ok (.aload_n 0, 1) := by decide +kernel
theorem dX10_looksAt_416 : decode cX10_looksAt 416 = .ok (.getfield 21, 3) := by decide +kernel
theorem dX10_looksAt_419 : decode cX10_looksAt 419 = .ok (.iconst 0, 1) := by decide +kernel
theorem dX10_looksAt_420 : decode cX10_looksAt 420 = .ok (.baload, 1) := by decide +kernel
theorem dX10_looksAt_421 : decode cX10_looksAt 421 = .ok (.ifCond .eq 20, 3) := by decide +kernel
theorem dX10_looksAt_424 : decode cX10_looksAt 424 = .ok (.iload 7, 2) := by decide +kernel
theorem dX10_looksAt_426 : decode cX10_looksAt 426 = .ok (.sipush (-200), 3) := by decide +kernel
theorem dX10_looksAt_429 : decode cX10_looksAt 429 = .ok (.if_icmp .gt 12, 3) := by decide +kernel
theorem dX10_looksAt_432 : decode cX10_looksAt 432 = .ok (.sipush (-200), 3) := by decide +kernel
theorem dX10_looksAt_435 : decode cX10_looksAt 435 = .ok (.iload 7, 2) := by decide +kernel
theorem dX10_looksAt_437 : decode cX10_looksAt 437 = .ok (.isub, 1) := by decide +kernel
theorem dX10_looksAt_438 : decode cX10_looksAt 438 = .ok (.goto 4, 3) := by decide +kernel
theorem dX10_looksAt_441 : decode cX10_looksAt 441 = .ok (.iconst 0, 1) := by decide +kernel
theorem dX10_looksAt_442 : decode cX10_looksAt 442 = .ok (.iadd, 1) := by decide +kernel
theorem dX10_looksAt_443 : decode cX10_looksAt 443 = .ok (.putfield 146, 3) := by decide +kernel
theorem dX10_looksAt_446 : decode cX10_looksAt 446 = .ok (.iinc 6 1, 3) := by decide +kernel
theorem dX10_looksAt_449 : decode cX10_looksAt 449 = .ok (.goto (-340), 3) := by decide +kernel
theorem dX10_looksAt_452 : decode cX10_looksAt 452 = .ok (.aload_n 0, 1) := by decide +kernel
theorem dX10_looksAt_453 : decode cX10_looksAt 453 = .ok (.aload_n 0, 1) := by decide +kernel
theorem dX10_looksAt_454 : decode cX10_looksAt 454 = .ok (.getfield 146, 3) := by decide +kernel
theorem dX10_looksAt_457 : decode cX10_looksAt 457 = .ok (.iconst 1, 1) := by decide +kernel
theorem dX10_looksAt_458 : decode cX10_looksAt 458 = .ok (.if_icmp .ge 7, 3) := by decide +kernel
theorem dX10_looksAt_461 : decode cX10_looksAt 461 = .ok (.iconst 1, 1) := by decide +kernel
theorem dX10_looksAt_462 : decode cX10_looksAt 462 = .ok (.goto 7, 3) := by decide +kernel
theorem dX10_looksAt_465 : decode cX10_looksAt 465 = .ok (.aload_n 0, 1) := by decide +kernel
theorem dX10_looksAt_466 : decode cX10_looksAt 466 = .ok (.getfield 146, 3) := by decide +kernel
theorem dX10_looksAt_469 : decode cX10_looksAt 469 = .ok (.putfield 146, 3) := by decide +kernel
theorem dX10_looksAt_472 : decode cX10_looksAt 472 = .ok (.return_, 1) := by decide +kernel
theorem dX10_isOn_0 : decode cX10_isOn 0 = .ok (.iload_n 1, 1) := by decide +kernel
theorem dX10_isOn_1 : decode cX10_isOn 1 = .ok (.ifCond .ne 12, 3) := by decide +kernel
theorem dX10_isOn_4 : decode cX10_isOn 4 = .ok (.iload_n 2, 1) := by decide +kernel
theorem dX10_isOn_5 : decode cX10_isOn 5 = .ok (.aload_n 0, 1) := by decide +kernel
theorem dX10_isOn_6 : decode cX10_isOn 6 = .ok (.getfield 152, 3) := by decide +kernel
theorem dX10_isOn_9 : decode cX10_isOn 9 = .ok (.isub, 1) := by decide +kernel
theorem dX10_isOn_10 : decode cX10_isOn 10 = .ok (.goto 4, 3) := by decide +kernel
theorem dX10_isOn_13 : decode cX10_isOn 13 = .ok (.iload_n 2, 1) := by decide +kernel
theorem dX10_isOn_14 : decode cX10_isOn 14 = .ok (.istore_n 3, 1) := by decide +kernel
theorem dX10_isOn_15 : decode cX10_isOn 15 = .ok (.aload_n 0, 1) := by decide +kernel
theorem dX10_isOn_16 : decode cX10_isOn 16 = .ok (.getfield 155, 3) := by decide +kernel
theorem dX10_isOn_19 : decode cX10_isOn 19 = .ok (.ifCond .ne 30, 3) := by decide +kernel
theorem dX10_isOn_22 : decode cX10_isOn 22 = .ok (.iload_n 3, 1) := by decide +kernel
theorem dX10_isOn_23 : decode cX10_isOn 23 = .ok (.ifCond .lt 26, 3) := by decide +kernel
theorem dX10_isOn_26 : decode cX10_isOn 26 = .ok (.aload_n 0, 1) := by decide +kernel
theorem dX10_isOn_27 : decode cX10_isOn 27 = .ok (.getfield 9, 3) := by decide +kernel
theorem dX10_isOn_30 : decode cX10_isOn 30 = .ok (.sipush 130, 3) := by decide +kernel
theorem dX10_isOn_33 : decode cX10_isOn 33 = .ok (.bipush 40, 2) := by decide +kernel
theorem dX10_isOn_35 : decode cX10_isOn 35 = .ok (.iload_n 1, 1) := by decide +kernel
theorem dX10_isOn_36 : decode cX10_isOn 36 = .ok (.imul, 1) := by decide +kernel
theorem dX10_isOn_37 : decode cX10_isOn 37 = .ok (.iadd, 1) := by decide +kernel
theorem dX10_isOn_38 : decode cX10_isOn 38 = .ok (.iload_n 3, 1) := by decide +kernel
theorem dX10_isOn_39 : decode cX10_isOn 39 = .ok (.iadd, 1) := by decide +kernel
theorem dX10_isOn_40 : decode cX10_isOn 40 = .ok (.iaload, 1) := by decide +kernel
theorem dX10_isOn_41 : decode cX10_isOn 41 = .ok (.iconst 1, 1) := by decide +kernel
theorem dX10_isOn_42 : decode cX10_isOn 42 = .ok (.if_icmp .ne 7, 3) := by decide +kernel
theorem dX10_isOn_45 : decode cX10_isOn 45 = .ok (.iconst 1, 1) := by decide +kernel
theorem dX10_isOn_46 : decode cX10_isOn 46 = .ok (.goto 4, 3) := by decide +kernel
theorem dX10_isOn_49 : decode cX10_isOn 49 = .ok (.iconst 0, 1) := by decide +kernel
theorem dX10_isOn_50 : decode cX10_isOn 50 = .ok (.ireturn, 1) := by decide +kernel
theorem dX10_warms_0 : decode cX10_warms 0 = .ok (.iconst 0, 1) := by decide +kernel
theorem dX10_warms_1 : decode cX10_warms 1 = .ok (.istore_n 1, 1) := by decide +kernel
theorem dX10_warms_2 : decode cX10_warms 2 = .ok (.iconst 0, 1) := by decide +kernel
theorem dX10_warms_3 : decode cX10_warms 3 = .ok (.istore_n 2, 1) := by decide +kernel
theorem dX10_warms_4 : decode cX10_warms 4 = .ok (.iload_n 2, 1) := by decide +kernel
theorem dX10_warms_5 : decode cX10_warms 5 = .ok (.bipush 40, 2) := by decide +kernel
theorem dX10_warms_7 : decode cX10_warms 7 = .ok (.if_icmp .ge 63, 3) := by decide +kernel
theorem dX10_warms_10 : decode cX10_warms 10 = .ok (.iload_n 1, 1) := by decide +kernel
theorem dX10_warms_11 : decode cX10_warms 11 = .ok (.aload_n 0, 1) := by decide +kernel
theorem dX10_warms_12 : decode cX10_warms 12 = .ok (.iconst 0, 1) := by decide +kernel
theorem dX10_warms_13 : decode cX10_warms 13 = .ok (.iload_n 2, 1) := by decide +kernel
theorem dX10_warms_14 : decode cX10_warms 14 = .ok (.invokevirtual 158, 3) := by decide +kernel
theorem dX10_warms_17 : decode cX10_warms 17 = .ok (.ifCond .eq 11, 3) := by decide +kernel
theorem dX10_warms_20 : decode cX10_warms 20 = .ok (.aload_n 0, 1) := by decide +kernel
theorem dX10_warms_21 : decode cX10_warms 21 = .ok (.iconst 0, 1) := by decide +kernel
theorem dX10_warms_22 : decode cX10_warms 22 = .ok (.invokevirtual 162, 3) := by decide +kernel
theorem dX10_warms_25 : decode cX10_warms 25 = .ok (.goto 9, 3) := by decide +kernel
theorem dX10_warms_28 : decode cX10_warms 28 = .ok (.aload_n 0, 1) := by decide +kernel
theorem dX10_warms_29 : decode cX10_warms 29 = .ok (.iconst 1, 1) := by decide +kernel
theorem dX10_warms_30 : decode cX10_warms 30 = .ok (.invokevirtual 162, 3) := by decide +kernel
theorem dX10_warms_33 : decode cX10_warms 33 = .ok (.ineg, 1) := by decide +kernel
theorem dX10_warms_34 : decode cX10_warms 34 = .ok (.iadd, 1) := by decide +kernel
theorem dX10_warms_35 : decode cX10_warms 35 = .ok (.istore_n 1, 1) := by decide +kernel
theorem dX10_warms_36 : decode cX10_warms 36 = .ok (.iload_n 1, 1) := by decide +kernel
theorem dX10_warms_37 : decode cX10_warms 37 = .ok (.ifCond .ge 7, 3) := by decide +kernel
theorem dX10_warms_40 : decode cX10_warms 40 = .ok (.iconst 0, 1) := by decide +kernel
theorem dX10_warms_41 : decode cX10_warms 41 = .ok (.goto 15, 3) := by decide +kernel
theorem dX10_warms_44 : decode cX10_warms 44 = .ok (.iload_n 1, 1) := by decide +kernel
theorem dX10_warms_45 : decode cX10_warms 45 = .ok (.bipush 99, 2) := by decide +kernel
theorem dX10_warms_47 : decode cX10_warms 47 = .ok (.if_icmp .le 8, 3) := by decide +kernel
theorem dX10_warms_50 : decode cX10_warms 50 = .ok (.bipush 99, 2) := by decide +kernel
theorem dX10_warms_52 : decode cX10_warms 52 = .ok (.goto 4, 3) := by decide +kernel
theorem dX10_warms_55 : decode cX10_warms 55 = .ok (.iload_n 1, 1) := by decide +kernel
theorem dX10_warms_56 : decode cX10_warms 56 = .ok (.istore_n 1, 1) := by decide +kernel
theorem dX10_warms_57 : decode cX10_warms 57 = .ok (.aload_n 0, 1) := by decide +kernel
theorem dX10_warms_58 : decode cX10_warms 58 = .ok (.getfield 25, 3) := by decide +kernel
theorem dX10_warms_61 : decode cX10_warms 61 = .ok (.iload_n 2, 1) := by decide +kernel
theorem dX10_warms_62 : decode cX10_warms 62 = .ok (.iload_n 1, 1) := by decide +kernel
theorem dX10_warms_63 : decode cX10_warms 63 = .ok (.iastore, 1) := by decide +kernel
theorem dX10_warms_64 : decode cX10_warms 64 = .ok (.iinc 2 1, 3) := by decide +kernel
theorem dX10_warms_67 : decode cX10_warms 67 = .ok (.goto (-63), 3) := by decide +kernel
theorem dX10_warms_70 : decode cX10_warms 70 = .ok (.return_, 1) := by decide +kernel
theorem dX10_lengthOf_0 : decode cX10_lengthOf 0 = .ok (.aload_n 0, 1) := by decide +kernel
theorem dX10_lengthOf_1 : decode cX10_lengthOf 1 = .ok (.iload_n 1, 1) := by decide +kernel
theorem dX10_lengthOf_2 : decode cX10_lengthOf 2 = .ok (.iload_n 2, 1) := by decide +kernel
theorem dX10_lengthOf_3 : decode cX10_lengthOf 3 = .ok (.invokevirtual 166, 3) := by decide +kernel
theorem dX10_lengthOf_6 : decode cX10_lengthOf 6 = .ok (.aload_n 0, 1) := by decide +kernel
theorem dX10_lengthOf_7 : decode cX10_lengthOf 7 = .ok (.getfield 25, 3) := by decide +kernel
theorem dX10_lengthOf_10 : decode cX10_lengthOf 10 = .ok (.iload_n 2, 1) := by decide +kernel
theorem dX10_lengthOf_11 : decode cX10_lengthOf 11 = .ok (.iaload, 1) := by decide +kernel
theorem dX10_lengthOf_12 : decode cX10_lengthOf 12 = .ok (.aload_n 0, 1) := by decide +kernel
theorem dX10_lengthOf_13 : decode cX10_lengthOf 13 = .ok (.getfield 143, 3) := by decide +kernel
theorem dX10_lengthOf_16 : decode cX10_lengthOf 16 = .ok (.imul, 1) := by decide +kernel
theorem dX10_lengthOf_17 : decode cX10_lengthOf 17 = .ok (.bipush 10, 2) := by decide +kernel
theorem dX10_lengthOf_19 : decode cX10_lengthOf 19 = .ok (.idiv, 1) := by decide +kernel
theorem dX10_lengthOf_20 : decode cX10_lengthOf 20 = .ok (.ireturn, 1) := by decide +kernel
theorem dX10_ticks_0 : decode cX10_ticks 0 = .ok (.iconst 0, 1) := by decide +kernel
theorem dX10_ticks_1 : decode cX10_ticks 1 = .ok (.istore_n 2, 1) := by decide +kernel
theorem dX10_ticks_2 : decode cX10_ticks 2 = .ok (.iconst 0, 1) := by decide +kernel
theorem dX10_ticks_3 : decode cX10_ticks 3 = .ok (.istore_n 3, 1) := by decide +kernel
theorem dX10_ticks_4 : decode cX10_ticks 4 = .ok (.iload_n 3, 1) := by decide +kernel
theorem dX10_ticks_5 : decode cX10_ticks 5 = .ok (.bipush 40, 2) := by decide +kernel
theorem dX10_ticks_7 : decode cX10_ticks 7 = .ok (.if_icmp .ge 119, 3) := by decide +kernel
theorem dX10_ticks_10 : decode cX10_ticks 10 = .ok (.aload_n 0, 1) := by decide +kernel
theorem dX10_ticks_11 : decode cX10_ticks 11 = .ok (.iload_n 1, 1) := by decide +kernel
theorem dX10_ticks_12 : decode cX10_ticks 12 = .ok (.iload_n 3, 1) := by decide +kernel
theorem dX10_ticks_13 : decode cX10_ticks 13 = .ok (.invokevirtual 170, 3) := by decide +kernel
theorem dX10_ticks_16 : decode cX10_ticks 16 = .ok (.istore 4, 2) := by decide +kernel
theorem dX10_ticks_18 : decode cX10_ticks 18 = .ok (.iload 4, 2) := by decide +kernel
theorem dX10_ticks_20 : decode cX10_ticks 20 = .ok (.iload_n 2, 1) := by decide +kernel
theorem dX10_ticks_21 : decode cX10_ticks 21 = .ok (.isub, 1) := by decide +kernel
theorem dX10_ticks_22 : decode cX10_ticks 22 = .ok (.invokestatic 173, 3) := by decide +kernel
theorem dX10_ticks_25 : decode cX10_ticks 25 = .ok (.aload_n 0, 1) := by decide +kernel
theorem dX10_ticks_26 : decode cX10_ticks 26 = .ok (.getfield 146, 3) := by decide +kernel
theorem dX10_ticks_29 : decode cX10_ticks 29 = .ok (.idiv, 1) := by decide +kernel
theorem dX10_ticks_30 : decode cX10_ticks 30 = .ok (.istore 5, 2) := by decide +kernel
theorem dX10_ticks_32 : decode cX10_ticks 32 = .ok (.iload 5, 2) := by decide +kernel
theorem dX10_ticks_34 : decode cX10_ticks 34 = .ok (.ifCond .le 8, 3) := by decide +kernel
theorem dX10_ticks_37 : decode cX10_ticks 37 = .ok (.iload 4, 2) := by decide +kernel
theorem dX10_ticks_39 : decode cX10_ticks 39 = .ok (.goto 4, 3) := by decide +kernel
theorem dX10_ticks_42 : decode cX10_ticks 42 = .ok (.iload_n 2, 1) := by decide +kernel
theorem dX10_ticks_43 : decode cX10_ticks 43 = .ok (.istore_n 2, 1) := by decide +kernel
theorem dX10_ticks_44 : decode cX10_ticks 44 = .ok (.iload 5, 2) := by decide +kernel
theorem dX10_ticks_46 : decode cX10_ticks 46 = .ok (.bipush 9, 2) := by decide +kernel
theorem dX10_ticks_48 : decode cX10_ticks 48 = .ok (.if_icmp .le 8, 3) := by decide +kernel
theorem dX10_ticks_51 : decode cX10_ticks 51 = .ok (.bipush 9, 2) := by decide +kernel
theorem dX10_ticks_53 : decode cX10_ticks 53 = .ok (.goto 5, 3) := by decide +kernel
theorem dX10_ticks_56 : decode cX10_ticks 56 = .ok (.iload 5, 2) := by decide +kernel
theorem dX10_ticks_58 : decode cX10_ticks 58 = .ok (.istore 5, 2) := by decide +kernel
theorem dX10_ticks_60 : decode cX10_ticks 60 = .ok (.iload_n 3, 1) := by decide +kernel
theorem dX10_ticks_61 : decode cX10_ticks 61 = .ok (.ifCond .ne 7, 3) := by decide +kernel
theorem dX10_ticks_64 : decode cX10_ticks 64 = .ok (.iconst 0, 1) := by decide +kernel
theorem dX10_ticks_65 : decode cX10_ticks 65 = .ok (.goto 11, 3) := by decide +kernel
theorem dX10_ticks_68 : decode cX10_ticks 68 = .ok (.aload_n 0, 1) := by decide +kernel
theorem dX10_ticks_69 : decode cX10_ticks 69 = .ok (.getfield 25, 3) := by decide +kernel
theorem dX10_ticks_72 : decode cX10_ticks 72 = .ok (.iload_n 3, 1) := by decide +kernel
theorem dX10_ticks_73 : decode cX10_ticks 73 = .ok (.iconst 1, 1) := by decide +kernel
theorem dX10_ticks_74 : decode cX10_ticks 74 = .ok (.isub, 1) := by decide +kernel
theorem dX10_ticks_75 : decode cX10_ticks 75 = .ok (.iaload, 1) := by decide +kernel
theorem dX10_ticks_76 : decode cX10_ticks 76 = .ok (.istore 6, 2) := by decide +kernel
theorem dX10_ticks_78 : decode cX10_ticks 78 = .ok (.aload_n 0, 1) := by decide +kernel
theorem dX10_ticks_79 : decode cX10_ticks 79 = .ok (.getfield 28, 3) := by decide +kernel
theorem dX10_ticks_82 : decode cX10_ticks 82 = .ok (.bipush 40, 2) := by decide +kernel
theorem dX10_ticks_84 : decode cX10_ticks 84 = .ok (.iload_n 1, 1) := by decide +kernel
theorem dX10_ticks_85 : decode cX10_ticks 85 = .ok (.imul, 1) := by decide +kernel
theorem dX10_ticks_86 : decode cX10_ticks 86 = .ok (.iload_n 3, 1) := by decide +kernel
theorem dX10_ticks_87 : decode cX10_ticks 87 = .ok (.iadd, 1) := by decide +kernel
theorem dX10_ticks_88 : decode cX10_ticks 88 = .ok (.aload_n 0, 1) := by decide +kernel
theorem dX10_ticks_89 : decode cX10_ticks 89 = .ok (.getfield 9, 3) := by decide +kernel
theorem dX10_ticks_92 : decode cX10_ticks 92 = .ok (.sipush 250, 3) := by decide +kernel
theorem dX10_ticks_95 : decode cX10_ticks 95 = .ok (.iload_n 1, 1) := by decide +kernel
theorem dX10_ticks_96 : decode cX10_ticks 96 = .ok (.iadd, 1) := by decide +kernel
theorem dX10_ticks_97 : decode cX10_ticks 97 = .ok (.iaload, 1) := by decide +kernel
theorem dX10_ticks_98 : decode cX10_ticks 98 = .ok (.iconst 4, 1) := by decide +kernel
theorem dX10_ticks_99 : decode cX10_ticks 99 = .ok (.if_icmp .ne 18, 3) := by decide +kernel
theorem dX10_ticks_102 : decode cX10_ticks 102 = .ok (.aload_n 0, 1) := by decide +kernel
theorem dX10_ticks_103 : decode cX10_ticks 103 = .ok (.getfield 25, 3) := by decide +kernel
theorem dX10_ticks_106 : decode cX10_ticks 106 = .ok (.iload_n 3, 1) := by decide +kernel
theorem dX10_ticks_107 : decode cX10_ticks 107 = .ok (.iaload, 1) := by decide +kernel
theorem dX10_ticks_108 : decode cX10_ticks 108 = .ok (.iload 6, 2) := by decide +kernel
theorem dX10_ticks_110 : decode cX10_ticks 110 = .ok (.if_icmp .gt 7, 3) := by decide +kernel
theorem dX10_ticks_113 : decode cX10_ticks 113 = .ok (.iconst 0, 1) := by decide +kernel
theorem dX10_ticks_114 : decode cX10_ticks 114 = .ok (.goto 5, 3) := by decide +kernel
theorem dX10_ticks_117 : decode cX10_ticks 117 = .ok (.iload 5, 2) := by decide +kernel
theorem dX10_ticks_119 : decode cX10_ticks 119 = .ok (.iastore, 1) := by decide +kernel
theorem dX10_ticks_120 : decode cX10_ticks 120 = .ok (.iinc 3 1, 3) := by decide +kernel
theorem dX10_ticks_123 : decode cX10_ticks 123 = .ok (.goto (-119), 3) := by decide +kernel
theorem dX10_ticks_126 : decode cX10_ticks 126 = .ok (.return_, 1) := by decide +kernel
theorem dX10_strikesBy_0 : decode cX10_strikesBy 0 = .ok (.iconst 0, 1) := by decide +kernel
theorem dX10_strikesBy_1 : decode cX10_strikesBy 1 = .ok (.istore_n 2, 1) := by decide +kernel
theorem dX10_strikesBy_2 : decode cX10_strikesBy 2 = .ok (.iload_n 2, 1) := by decide +kernel
theorem dX10_strikesBy_3 : decode cX10_strikesBy 3 = .ok (.bipush 40, 2) := by decide +kernel
theorem dX10_strikesBy_5 : decode cX10_strikesBy 5 = .ok (.if_icmp .ge 99, 3) := by decide +kernel
theorem dX10_strikesBy_8 : decode cX10_strikesBy 8 = .ok (.iload_n 2, 1) := by decide +kernel
theorem dX10_strikesBy_9 : decode cX10_strikesBy 9 = .ok (.ifCond .le 18, 3) := by decide +kernel
theorem dX10_strikesBy_12 : decode cX10_strikesBy 12 = .ok (.aload_n 0, 1) := by decide +kernel
theorem dX10_strikesBy_13 : decode cX10_strikesBy 13 = .ok (.iconst 1, 1) := by decide +kernel
theorem dX10_strikesBy_14 : decode cX10_strikesBy 14 = .ok (.iload_n 2, 1) := by decide +kernel
theorem dX10_strikesBy_15 : decode cX10_strikesBy 15 = .ok (.iconst 1, 1) := by decide +kernel
theorem dX10_strikesBy_16 : decode cX10_strikesBy 16 = .ok (.isub, 1) := by decide +kernel
theorem dX10_strikesBy_17 : decode cX10_strikesBy 17 = .ok (.invokevirtual 158, 3) := by decide +kernel
theorem dX10_strikesBy_20 : decode cX10_strikesBy 20 = .ok (.ifCond .eq 7, 3) := by decide +kernel
theorem dX10_strikesBy_23 : decode cX10_strikesBy 23 = .ok (.iconst 1, 1) := by decide +kernel
theorem dX10_strikesBy_24 : decode cX10_strikesBy 24 = .ok (.goto 4, 3) := by decide +kernel
theorem dX10_strikesBy_27 : decode cX10_strikesBy 27 = .ok (.iconst 0, 1) := by decide +kernel
theorem dX10_strikesBy_28 : decode cX10_strikesBy 28 = .ok (.istore_n 3, 1) := by decide +kernel
theorem dX10_strikesBy_29 : decode cX10_strikesBy 29 = .ok (.aload_n 0, 1) := by decide +kernel
theorem dX10_strikesBy_30 : decode cX10_strikesBy 30 = .ok (.iconst 1, 1) := by decide +kernel
theorem dX10_strikesBy_31 : decode cX10_strikesBy 31 = .ok (.iload_n 2, 1) := by decide +kernel
theorem dX10_strikesBy_32 : decode cX10_strikesBy 32 = .ok (.invokevirtual 158, 3) := by decide +kernel
theorem dX10_strikesBy_35 : decode cX10_strikesBy 35 = .ok (.istore 4, 2) := by decide +kernel
theorem dX10_strikesBy_37 : decode cX10_strikesBy 37 = .ok (.aload_n 0, 1) := by decide +kernel
theorem dX10_strikesBy_38 : decode cX10_strikesBy 38 = .ok (.getfield 28, 3) := by decide +kernel
theorem dX10_strikesBy_41 : decode cX10_strikesBy 41 = .ok (.bipush 40, 2) := by decide +kernel
theorem dX10_strikesBy_43 : decode cX10_strikesBy 43 = .ok (.iload_n 1, 1) := by decide +kernel
theorem dX10_strikesBy_44 : decode cX10_strikesBy 44 = .ok (.imul, 1) := by decide +kernel
theorem dX10_strikesBy_45 : decode cX10_strikesBy 45 = .ok (.iload_n 2, 1) := by decide +kernel
theorem dX10_strikesBy_46 : decode cX10_strikesBy 46 = .ok (.iadd, 1) := by decide +kernel
theorem dX10_strikesBy_47 : decode cX10_strikesBy 47 = .ok (.iload 4, 2) := by decide +kernel
theorem dX10_strikesBy_49 : decode cX10_strikesBy 49 = .ok (.ifCond .ne 20, 3) := by decide +kernel
theorem dX10_strikesBy_52 : decode cX10_strikesBy 52 = .ok (.iload_n 3, 1) := by decide +kernel
theorem dX10_strikesBy_53 : decode cX10_strikesBy 53 = .ok (.ifCond .eq 16, 3) := by decide +kernel
theorem dX10_strikesBy_56 : decode cX10_strikesBy 56 = .ok (.aload_n 0, 1) := by decide +kernel
theorem dX10_strikesBy_57 : decode cX10_strikesBy 57 = .ok (.getfield 9, 3) := by decide +kernel
theorem dX10_strikesBy_60 : decode cX10_strikesBy 60 = .ok (.sipush 270, 3) := by decide +kernel
theorem dX10_strikesBy_63 : decode cX10_strikesBy 63 = .ok (.iload_n 1, 1) := by decide +kernel
theorem dX10_strikesBy_64 : decode cX10_strikesBy 64 = .ok (.iadd, 1) := by decide +kernel
theorem dX10_strikesBy_65 : decode cX10_strikesBy 65 = .ok (.iaload, 1) := by decide +kernel
theorem dX10_strikesBy_66 : decode cX10_strikesBy 66 = .ok (.goto 31, 3) := by decide +kernel
theorem dX10_strikesBy_69 : decode cX10_strikesBy 69 = .ok (.iload 4, 2) := by decide +kernel
theorem dX10_strikesBy_71 : decode cX10_strikesBy 71 = .ok (.ifCond .eq 25, 3) := by decide +kernel
theorem dX10_strikesBy_74 : decode cX10_strikesBy 74 = .ok (.iload_n 3, 1) := by decide +kernel
theorem dX10_strikesBy_75 : decode cX10_strikesBy 75 = .ok (.ifCond .ne 21, 3) := by decide +kernel
theorem dX10_strikesBy_78 : decode cX10_strikesBy 78 = .ok (.aload_n 0, 1) := by decide +kernel
theorem dX10_strikesBy_79 : decode cX10_strikesBy 79 = .ok (.getfield 9, 3) := by decide +kernel
theorem dX10_strikesBy_82 : decode cX10_strikesBy 82 = .ok (.sipush 250, 3) := by decide +kernel
theorem dX10_strikesBy_85 : decode cX10_strikesBy 85 = .ok (.iload_n 1, 1) := by decide +kernel
theorem dX10_strikesBy_86 : decode cX10_strikesBy 86 = .ok (.iadd, 1) := by decide +kernel
theorem dX10_strikesBy_87 : decode cX10_strikesBy 87 = .ok (.iaload, 1) := by decide +kernel
theorem dX10_strikesBy_88 : decode cX10_strikesBy 88 = .ok (.iconst 5, 1) := by decide +kernel
theorem dX10_strikesBy_89 : decode cX10_strikesBy 89 = .ok (.if_icmp .ne 7, 3) := by decide +kernel
theorem dX10_strikesBy_92 : decode cX10_strikesBy 92 = .ok (.iconst 1, 1) := by decide +kernel
theorem dX10_strikesBy_93 : decode cX10_strikesBy 93 = .ok (.goto 4, 3) := by decide +kernel
theorem dX10_strikesBy_96 : decode cX10_strikesBy 96 = .ok (.iconst 0, 1) := by decide +kernel
theorem dX10_strikesBy_97 : decode cX10_strikesBy 97 = .ok (.iastore, 1) := by decide +kernel
theorem dX10_strikesBy_98 : decode cX10_strikesBy 98 = .ok (.iinc 2 1, 3) := by decide +kernel
theorem dX10_strikesBy_101 : decode cX10_strikesBy 101 = .ok (.goto (-99), 3) := by decide +kernel
theorem dX10_strikesBy_104 : decode cX10_strikesBy 104 = .ok (.return_, 1) := by decide +kernel
theorem dX10_hums_0 : decode cX10_hums 0 = .ok (.iconst 0, 1) := by decide +kernel
theorem dX10_hums_1 : decode cX10_hums 1 = .ok (.istore_n 3, 1) := by decide +kernel
theorem dX10_hums_2 : decode cX10_hums 2 = .ok (.aload_n 0, 1) := by decide +kernel
theorem dX10_hums_3 : decode cX10_hums 3 = .ok (.getfield 9, 3) := by decide +kernel
theorem dX10_hums_6 : decode cX10_hums 6 = .ok (.sipush 270, 3) := by decide +kernel
theorem dX10_hums_9 : decode cX10_hums 9 = .ok (.iload_n 1, 1) := by decide +kernel
theorem dX10_hums_10 : decode cX10_hums 10 = .ok (.iadd, 1) := by decide +kernel
theorem dX10_hums_11 : decode cX10_hums 11 = .ok (.iaload, 1) := by decide +kernel
theorem dX10_hums_12 : decode cX10_hums 12 = .ok (.ifCond .ne 7, 3) := by decide +kernel
theorem dX10_hums_15 : decode cX10_hums 15 = .ok (.iconst 1, 1) := by decide +kernel
theorem dX10_hums_16 : decode cX10_hums 16 = .ok (.goto 13, 3) := by decide +kernel
theorem dX10_hums_19 : decode cX10_hums 19 = .ok (.aload_n 0, 1) := by decide +kernel
theorem dX10_hums_20 : decode cX10_hums 20 = .ok (.getfield 9, 3) := by decide +kernel
theorem dX10_hums_23 : decode cX10_hums 23 = .ok (.sipush 270, 3) := by decide +kernel
theorem dX10_hums_26 : decode cX10_hums 26 = .ok (.iload_n 1, 1) := by decide +kernel
theorem dX10_hums_27 : decode cX10_hums 27 = .ok (.iadd, 1) := by decide +kernel
theorem dX10_hums_28 : decode cX10_hums 28 = .ok (.iaload, 1) := by decide +kernel
theorem dX10_hums_29 : decode cX10_hums 29 = .ok (.istore 4, 2) := by decide +kernel
theorem dX10_hums_31 : decode cX10_hums 31 = .ok (.iconst 0, 1) := by decide +kernel
theorem dX10_hums_32 : decode cX10_hums 32 = .ok (.istore 5, 2) := by decide +kernel
theorem dX10_hums_34 : decode cX10_hums 34 = .ok (.iload 5, 2) := by decide +kernel
theorem dX10_hums_36 : decode cX10_hums 36 = .ok (.bipush 40, 2) := by decide +kernel
theorem dX10_hums_38 : decode cX10_hums 38 = .ok (.if_icmp .ge 51, 3) := by decide +kernel
theorem dX10_hums_41 : decode cX10_hums 41 = .ok (.aload_n 0, 1) := by decide +kernel
theorem dX10_hums_42 : decode cX10_hums 42 = .ok (.iconst 2, 1) := by decide +kernel
theorem dX10_hums_43 : decode cX10_hums 43 = .ok (.iload 5, 2) := by decide +kernel
theorem dX10_hums_45 : decode cX10_hums 45 = .ok (.invokevirtual 158, 3) := by decide +kernel
theorem dX10_hums_48 : decode cX10_hums 48 = .ok (.iload_n 2, 1) := by decide +kernel
theorem dX10_hums_49 : decode cX10_hums 49 = .ok (.if_icmp .ne 9, 3) := by decide +kernel
theorem dX10_hums_52 : decode cX10_hums 52 = .ok (.iload_n 3, 1) := by decide +kernel
theorem dX10_hums_53 : decode cX10_hums 53 = .ok (.iconst 1, 1) := by decide +kernel
theorem dX10_hums_54 : decode cX10_hums 54 = .ok (.iadd, 1) := by decide +kernel
theorem dX10_hums_55 : decode cX10_hums 55 = .ok (.goto 4, 3) := by decide +kernel
theorem dX10_hums_58 : decode cX10_hums 58 = .ok (.iconst 0, 1) := by decide +kernel
theorem dX10_hums_59 : decode cX10_hums 59 = .ok (.istore_n 3, 1) := by decide +kernel
theorem dX10_hums_60 : decode cX10_hums 60 = .ok (.aload_n 0, 1) := by decide +kernel
theorem dX10_hums_61 : decode cX10_hums 61 = .ok (.getfield 28, 3) := by decide +kernel
theorem dX10_hums_64 : decode cX10_hums 64 = .ok (.bipush 40, 2) := by decide +kernel
theorem dX10_hums_66 : decode cX10_hums 66 = .ok (.iload_n 1, 1) := by decide +kernel
theorem dX10_hums_67 : decode cX10_hums 67 = .ok (.imul, 1) := by decide +kernel
theorem dX10_hums_68 : decode cX10_hums 68 = .ok (.iload 5, 2) := by decide +kernel
theorem dX10_hums_70 : decode cX10_hums 70 = .ok (.iadd, 1) := by decide +kernel
theorem dX10_hums_71 : decode cX10_hums 71 = .ok (.iload_n 3, 1) := by decide +kernel
theorem dX10_hums_72 : decode cX10_hums 72 = .ok (.iload 4, 2) := by decide +kernel
theorem dX10_hums_74 : decode cX10_hums 74 = .ok (.if_icmp .lt 7, 3) := by decide +kernel
theorem dX10_hums_77 : decode cX10_hums 77 = .ok (.iconst 1, 1) := by decide +kernel
theorem dX10_hums_78 : decode cX10_hums 78 = .ok (.goto 4, 3) := by decide +kernel
theorem dX10_hums_81 : decode cX10_hums 81 = .ok (.iconst 0, 1) := by decide +kernel
theorem dX10_hums_82 : decode cX10_hums 82 = .ok (.iastore, 1) := by decide +kernel
theorem dX10_hums_83 : decode cX10_hums 83 = .ok (.iinc 5 1, 3) := by decide +kernel
theorem dX10_hums_86 : decode cX10_hums 86 = .ok (.goto (-52), 3) := by decide +kernel
theorem dX10_hums_89 : decode cX10_hums 89 = .ok (.return_, 1) := by decide +kernel
theorem dX10_plainly_0 : decode cX10_plainly 0 = .ok (.iconst 0, 1) := by decide +kernel
theorem dX10_plainly_1 : decode cX10_plainly 1 = .ok (.istore_n 2, 1) := by decide +kernel
theorem dX10_plainly_2 : decode cX10_plainly 2 = .ok (.iload_n 2, 1) := by decide +kernel
theorem dX10_plainly_3 : decode cX10_plainly 3 = .ok (.bipush 40, 2) := by decide +kernel
theorem dX10_plainly_5 : decode cX10_plainly 5 = .ok (.if_icmp .ge 55, 3) := by decide +kernel
theorem dX10_plainly_8 : decode cX10_plainly 8 = .ok (.aload_n 0, 1) := by decide +kernel
theorem dX10_plainly_9 : decode cX10_plainly 9 = .ok (.iload_n 1, 1) := by decide +kernel
theorem dX10_plainly_10 : decode cX10_plainly 10 = .ok (.iload_n 2, 1) := by decide +kernel
theorem dX10_plainly_11 : decode cX10_plainly 11 = .ok (.invokevirtual 166, 3) := by decide +kernel
theorem dX10_plainly_14 : decode cX10_plainly 14 = .ok (.aload_n 0, 1) := by decide +kernel
theorem dX10_plainly_15 : decode cX10_plainly 15 = .ok (.getfield 28, 3) := by decide +kernel
theorem dX10_plainly_18 : decode cX10_plainly 18 = .ok (.bipush 40, 2) := by decide +kernel
theorem dX10_plainly_20 : decode cX10_plainly 20 = .ok (.iload_n 1, 1) := by decide +kernel
theorem dX10_plainly_21 : decode cX10_plainly 21 = .ok (.imul, 1) := by decide +kernel
theorem dX10_plainly_22 : decode cX10_plainly 22 = .ok (.iload_n 2, 1) := by decide +kernel
theorem dX10_plainly_23 : decode cX10_plainly 23 = .ok (.iadd, 1) := by decide +kernel
theorem dX10_plainly_24 : decode cX10_plainly 24 = .ok (.aload_n 0, 1) := by decide +kernel
theorem dX10_plainly_25 : decode cX10_plainly 25 = .ok (.getfield 149, 3) := by decide +kernel
theorem dX10_plainly_28 : decode cX10_plainly 28 = .ok (.ifCond .ne 24, 3) := by decide +kernel
theorem dX10_plainly_31 : decode cX10_plainly 31 = .ok (.iload_n 2, 1) := by decide +kernel
theorem dX10_plainly_32 : decode cX10_plainly 32 = .ok (.bipush 10, 2) := by decide +kernel
theorem dX10_plainly_34 : decode cX10_plainly 34 = .ok (.irem, 1) := by decide +kernel
theorem dX10_plainly_35 : decode cX10_plainly 35 = .ok (.aload_n 0, 1) := by decide +kernel
theorem dX10_plainly_36 : decode cX10_plainly 36 = .ok (.getfield 9, 3) := by decide +kernel
theorem dX10_plainly_39 : decode cX10_plainly 39 = .ok (.sipush 270, 3) := by decide +kernel
theorem dX10_plainly_42 : decode cX10_plainly 42 = .ok (.iload_n 1, 1) := by decide +kernel
theorem dX10_plainly_43 : decode cX10_plainly 43 = .ok (.iadd, 1) := by decide +kernel
theorem dX10_plainly_44 : decode cX10_plainly 44 = .ok (.iaload, 1) := by decide +kernel
theorem dX10_plainly_45 : decode cX10_plainly 45 = .ok (.if_icmp .ne 7, 3) := by decide +kernel
theorem dX10_plainly_48 : decode cX10_plainly 48 = .ok (.iconst 1, 1) := by decide +kernel
theorem dX10_plainly_49 : decode cX10_plainly 49 = .ok (.goto 4, 3) := by decide +kernel
theorem dX10_plainly_52 : decode cX10_plainly 52 = .ok (.iconst 0, 1) := by decide +kernel
theorem dX10_plainly_53 : decode cX10_plainly 53 = .ok (.iastore, 1) := by decide +kernel
theorem dX10_plainly_54 : decode cX10_plainly 54 = .ok (.iinc 2 1, 3) := by decide +kernel
theorem dX10_plainly_57 : decode cX10_plainly 57 = .ok (.goto (-55), 3) := by decide +kernel
theorem dX10_plainly_60 : decode cX10_plainly 60 = .ok (.return_, 1) := by decide +kernel
theorem dX10_goesOf_0 : decode cX10_goesOf 0 = .ok (.aload_n 0, 1) := by decide +kernel
theorem dX10_goesOf_1 : decode cX10_goesOf 1 = .ok (.getfield 9, 3) := by decide +kernel
theorem dX10_goesOf_4 : decode cX10_goesOf 4 = .ok (.sipush 250, 3) := by decide +kernel
theorem dX10_goesOf_7 : decode cX10_goesOf 7 = .ok (.iload_n 1, 1) := by decide +kernel
theorem dX10_goesOf_8 : decode cX10_goesOf 8 = .ok (.iadd, 1) := by decide +kernel
theorem dX10_goesOf_9 : decode cX10_goesOf 9 = .ok (.iaload, 1) := by decide +kernel
theorem dX10_goesOf_10 : decode cX10_goesOf 10 = .ok (.tableswitch 72 1 6 #[38, 46, 54, 38, 46, 63], 38) := by decide +kernel
theorem dX10_goesOf_48 : decode cX10_goesOf 48 = .ok (.aload_n 0, 1) := by decide +kernel
theorem dX10_goesOf_49 : decode cX10_goesOf 49 = .ok (.iload_n 1, 1) := by decide +kernel
theorem dX10_goesOf_50 : decode cX10_goesOf 50 = .ok (.invokevirtual 176, 3) := by decide +kernel
theorem dX10_goesOf_53 : decode cX10_goesOf 53 = .ok (.goto 34, 3) := by decide +kernel
theorem dX10_goesOf_56 : decode cX10_goesOf 56 = .ok (.aload_n 0, 1) := by decide +kernel
theorem dX10_goesOf_57 : decode cX10_goesOf 57 = .ok (.iload_n 1, 1) := by decide +kernel
theorem dX10_goesOf_58 : decode cX10_goesOf 58 = .ok (.invokevirtual 179, 3) := by decide +kernel
theorem dX10_goesOf_61 : decode cX10_goesOf 61 = .ok (.goto 26, 3) := by decide +kernel
theorem dX10_goesOf_64 : decode cX10_goesOf 64 = .ok (.aload_n 0, 1) := by decide +kernel
theorem dX10_goesOf_65 : decode cX10_goesOf 65 = .ok (.iload_n 1, 1) := by decide +kernel
theorem dX10_goesOf_66 : decode cX10_goesOf 66 = .ok (.iconst 1, 1) := by decide +kernel
theorem dX10_goesOf_67 : decode cX10_goesOf 67 = .ok (.invokevirtual 182, 3) := by decide +kernel
theorem dX10_goesOf_70 : decode cX10_goesOf 70 = .ok (.goto 17, 3) := by decide +kernel
theorem dX10_goesOf_73 : decode cX10_goesOf 73 = .ok (.aload_n 0, 1) := by decide +kernel
theorem dX10_goesOf_74 : decode cX10_goesOf 74 = .ok (.iload_n 1, 1) := by decide +kernel
theorem dX10_goesOf_75 : decode cX10_goesOf 75 = .ok (.iconst 0, 1) := by decide +kernel
theorem dX10_goesOf_76 : decode cX10_goesOf 76 = .ok (.invokevirtual 182, 3) := by decide +kernel
theorem dX10_goesOf_79 : decode cX10_goesOf 79 = .ok (.goto 8, 3) := by decide +kernel
theorem dX10_goesOf_82 : decode cX10_goesOf 82 = .ok (.aload_n 0, 1) := by decide +kernel
theorem dX10_goesOf_83 : decode cX10_goesOf 83 = .ok (.iload_n 1, 1) := by decide +kernel
theorem dX10_goesOf_84 : decode cX10_goesOf 84 = .ok (.invokevirtual 186, 3) := by decide +kernel
theorem dX10_goesOf_87 : decode cX10_goesOf 87 = .ok (.return_, 1) := by decide +kernel
theorem dX10_goes_0 : decode cX10_goes 0 = .ok (.aload_n 0, 1) := by decide +kernel
theorem dX10_goes_1 : decode cX10_goes 1 = .ok (.invokevirtual 189, 3) := by decide +kernel
theorem dX10_goes_4 : decode cX10_goes 4 = .ok (.iconst 0, 1) := by decide +kernel
theorem dX10_goes_5 : decode cX10_goes 5 = .ok (.istore_n 1, 1) := by decide +kernel
theorem dX10_goes_6 : decode cX10_goes 6 = .ok (.iload_n 1, 1) := by decide +kernel
theorem dX10_goes_7 : decode cX10_goes 7 = .ok (.aload_n 0, 1) := by decide +kernel
theorem dX10_goes_8 : decode cX10_goes 8 = .ok (.getfield 9, 3) := by decide +kernel
theorem dX10_goes_11 : decode cX10_goes 11 = .ok (.iconst 0, 1) := by decide +kernel
theorem dX10_goes_12 : decode cX10_goes 12 = .ok (.iaload, 1) := by decide +kernel
theorem dX10_goes_13 : decode cX10_goes 13 = .ok (.if_icmp .ge 14, 3) := by decide +kernel
theorem dX10_goes_16 : decode cX10_goes 16 = .ok (.aload_n 0, 1) := by decide +kernel
theorem dX10_goes_17 : decode cX10_goes 17 = .ok (.iload_n 1, 1) := by decide +kernel
theorem dX10_goes_18 : decode cX10_goes 18 = .ok (.invokevirtual 192, 3) := by decide +kernel
theorem dX10_goes_21 : decode cX10_goes 21 = .ok (.iinc 1 1, 3) := by decide +kernel
theorem dX10_goes_24 : decode cX10_goes 24 = .ok (.goto (-18), 3) := by decide +kernel
theorem dX10_goes_27 : decode cX10_goes 27 = .ok (.return_, 1) := by decide +kernel
theorem dX10_warmth_0 : decode cX10_warmth 0 = .ok (.iload_n 1, 1) := by decide +kernel
theorem dX10_warmth_1 : decode cX10_warmth 1 = .ok (.invokestatic 195, 3) := by decide +kernel
theorem dX10_warmth_4 : decode cX10_warmth 4 = .ok (.ifCond .ne 5, 3) := by decide +kernel
theorem dX10_warmth_7 : decode cX10_warmth 7 = .ok (.iconst (-1), 1) := by decide +kernel
theorem dX10_warmth_8 : decode cX10_warmth 8 = .ok (.ireturn, 1) := by decide +kernel
theorem dX10_warmth_9 : decode cX10_warmth 9 = .ok (.aload_n 0, 1) := by decide +kernel
theorem dX10_warmth_10 : decode cX10_warmth 10 = .ok (.invokevirtual 189, 3) := by decide +kernel
theorem dX10_warmth_13 : decode cX10_warmth 13 = .ok (.aload_n 0, 1) := by decide +kernel
theorem dX10_warmth_14 : decode cX10_warmth 14 = .ok (.getfield 25, 3) := by decide +kernel
theorem dX10_warmth_17 : decode cX10_warmth 17 = .ok (.iload_n 1, 1) := by decide +kernel
theorem dX10_warmth_18 : decode cX10_warmth 18 = .ok (.iaload, 1) := by decide +kernel
theorem dX10_warmth_19 : decode cX10_warmth 19 = .ok (.ireturn, 1) := by decide +kernel
theorem dX10_noise_0 : decode cX10_noise 0 = .ok (.iload_n 1, 1) := by decide +kernel
theorem dX10_noise_1 : decode cX10_noise 1 = .ok (.iconst 0, 1) := by decide +kernel
theorem dX10_noise_2 : decode cX10_noise 2 = .ok (.bipush 6, 2) := by decide +kernel
theorem dX10_noise_4 : decode cX10_noise 4 = .ok (.invokestatic 44, 3) := by decide +kernel
theorem dX10_noise_7 : decode cX10_noise 7 = .ok (.ifCond .eq 10, 3) := by decide +kernel
theorem dX10_noise_10 : decode cX10_noise 10 = .ok (.iload_n 2, 1) := by decide +kernel
theorem dX10_noise_11 : decode cX10_noise 11 = .ok (.invokestatic 199, 3) := by decide +kernel
theorem dX10_noise_14 : decode cX10_noise 14 = .ok (.ifCond .ne 5, 3) := by decide +kernel
theorem dX10_noise_17 : decode cX10_noise 17 = .ok (.iconst (-1), 1) := by decide +kernel
theorem dX10_noise_18 : decode cX10_noise 18 = .ok (.ireturn, 1) := by decide +kernel
theorem dX10_noise_19 : decode cX10_noise 19 = .ok (.iload_n 3, 1) := by decide +kernel
theorem dX10_noise_20 : decode cX10_noise 20 = .ok (.iconst 0, 1) := by decide +kernel
theorem dX10_noise_21 : decode cX10_noise 21 = .ok (.bipush 9, 2) := by decide +kernel
theorem dX10_noise_23 : decode cX10_noise 23 = .ok (.invokestatic 44, 3) := by decide +kernel
theorem dX10_noise_26 : decode cX10_noise 26 = .ok (.ifCond .eq 14, 3) := by decide +kernel
theorem dX10_noise_29 : decode cX10_noise 29 = .ok (.iload 4, 2) := by decide +kernel
theorem dX10_noise_31 : decode cX10_noise 31 = .ok (.iconst 1, 1) := by decide +kernel
theorem dX10_noise_32 : decode cX10_noise 32 = .ok (.bipush 40, 2) := by decide +kernel
theorem dX10_noise_34 : decode cX10_noise 34 = .ok (.invokestatic 44, 3) := by decide +kernel
theorem dX10_noise_37 : decode cX10_noise 37 = .ok (.ifCond .ne 6, 3) := by decide +kernel
theorem dX10_noise_40 : decode cX10_noise 40 = .ok (.bipush (-2), 2) := by decide +kernel
theorem dX10_noise_42 : decode cX10_noise 42 = .ok (.ireturn, 1) := by decide +kernel
theorem dX10_noise_43 : decode cX10_noise 43 = .ok (.aload_n 0, 1) := by decide +kernel
theorem dX10_noise_44 : decode cX10_noise 44 = .ok (.getfield 9, 3) := by decide +kernel
theorem dX10_noise_47 : decode cX10_noise 47 = .ok (.iconst 0, 1) := by decide +kernel
theorem dX10_noise_48 : decode cX10_noise 48 = .ok (.iaload, 1) := by decide +kernel
theorem dX10_noise_49 : decode cX10_noise 49 = .ok (.bipush 10, 2) := by decide +kernel
theorem dX10_noise_51 : decode cX10_noise 51 = .ok (.if_icmp .ne 6, 3) := by decide +kernel
theorem dX10_noise_54 : decode cX10_noise 54 = .ok (.bipush (-4), 2) := by decide +kernel
theorem dX10_noise_56 : decode cX10_noise 56 = .ok (.ireturn, 1) := by decide +kernel
theorem dX10_noise_57 : decode cX10_noise 57 = .ok (.aload_n 0, 1) := by decide +kernel
theorem dX10_noise_58 : decode cX10_noise 58 = .ok (.getfield 9, 3) := by decide +kernel
theorem dX10_noise_61 : decode cX10_noise 61 = .ok (.iconst 0, 1) := by decide +kernel
theorem dX10_noise_62 : decode cX10_noise 62 = .ok (.iaload, 1) := by decide +kernel
theorem dX10_noise_63 : decode cX10_noise 63 = .ok (.istore 5, 2) := by decide +kernel
theorem dX10_noise_65 : decode cX10_noise 65 = .ok (.aload_n 0, 1) := by decide +kernel
theorem dX10_noise_66 : decode cX10_noise 66 = .ok (.getfield 9, 3) := by decide +kernel
theorem dX10_noise_69 : decode cX10_noise 69 = .ok (.sipush 250, 3) := by decide +kernel
theorem dX10_noise_72 : decode cX10_noise 72 = .ok (.iload 5, 2) := by decide +kernel
theorem dX10_noise_74 : decode cX10_noise 74 = .ok (.iadd, 1) := by decide +kernel
theorem dX10_noise_75 : decode cX10_noise 75 = .ok (.iload_n 1, 1) := by decide +kernel
theorem dX10_noise_76 : decode cX10_noise 76 = .ok (.iastore, 1) := by decide +kernel
theorem dX10_noise_77 : decode cX10_noise 77 = .ok (.aload_n 0, 1) := by decide +kernel
theorem dX10_noise_78 : decode cX10_noise 78 = .ok (.getfield 9, 3) := by decide +kernel
theorem dX10_noise_81 : decode cX10_noise 81 = .ok (.sipush 260, 3) := by decide +kernel
theorem dX10_noise_84 : decode cX10_noise 84 = .ok (.iload 5, 2) := by decide +kernel
theorem dX10_noise_86 : decode cX10_noise 86 = .ok (.iadd, 1) := by decide +kernel
theorem dX10_noise_87 : decode cX10_noise 87 = .ok (.iload_n 2, 1) := by decide +kernel
theorem dX10_noise_88 : decode cX10_noise 88 = .ok (.iastore, 1) := by decide +kernel
theorem dX10_noise_89 : decode cX10_noise 89 = .ok (.aload_n 0, 1) := by decide +kernel
theorem dX10_noise_90 : decode cX10_noise 90 = .ok (.getfield 9, 3) := by decide +kernel
theorem dX10_noise_93 : decode cX10_noise 93 = .ok (.sipush 270, 3) := by decide +kernel
theorem dX10_noise_96 : decode cX10_noise 96 = .ok (.iload 5, 2) := by decide +kernel
theorem dX10_noise_98 : decode cX10_noise 98 = .ok (.iadd, 1) := by decide +kernel
theorem dX10_noise_99 : decode cX10_noise 99 = .ok (.iload_n 3, 1) := by decide +kernel
theorem dX10_noise_100 : decode cX10_noise 100 = .ok (.iastore, 1) := by decide +kernel
theorem dX10_noise_101 : decode cX10_noise 101 = .ok (.aload_n 0, 1) := by decide +kernel
theorem dX10_noise_102 : decode cX10_noise 102 = .ok (.getfield 9, 3) := by decide +kernel
theorem dX10_noise_105 : decode cX10_noise 105 = .ok (.sipush 280, 3) := by decide +kernel
theorem dX10_noise_108 : decode cX10_noise 108 = .ok (.iload 5, 2) := by decide +kernel
theorem dX10_noise_110 : decode cX10_noise 110 = .ok (.iadd, 1) := by decide +kernel
theorem dX10_noise_111 : decode cX10_noise 111 = .ok (.iload 4, 2) := by decide +kernel
theorem dX10_noise_113 : decode cX10_noise 113 = .ok (.iastore, 1) := by decide +kernel
theorem dX10_noise_114 : decode cX10_noise 114 = .ok (.aload_n 0, 1) := by decide +kernel
theorem dX10_noise_115 : decode cX10_noise 115 = .ok (.getfield 9, 3) := by decide +kernel
theorem dX10_noise_118 : decode cX10_noise 118 = .ok (.sipush 290, 3) := by decide +kernel
theorem dX10_noise_121 : decode cX10_noise 121 = .ok (.iload 5, 2) := by decide +kernel
theorem dX10_noise_123 : decode cX10_noise 123 = .ok (.iadd, 1) := by decide +kernel
theorem dX10_noise_124 : decode cX10_noise 124 = .ok (.iconst 0, 1) := by decide +kernel
theorem dX10_noise_125 : decode cX10_noise 125 = .ok (.iastore, 1) := by decide +kernel
theorem dX10_noise_126 : decode cX10_noise 126 = .ok (.aload_n 0, 1) := by decide +kernel
theorem dX10_noise_127 : decode cX10_noise 127 = .ok (.getfield 9, 3) := by decide +kernel
theorem dX10_noise_130 : decode cX10_noise 130 = .ok (.iconst 0, 1) := by decide +kernel
theorem dX10_noise_131 : decode cX10_noise 131 = .ok (.dup2, 1) := by decide +kernel
theorem dX10_noise_132 : decode cX10_noise 132 = .ok (.iaload, 1) := by decide +kernel
theorem dX10_noise_133 : decode cX10_noise 133 = .ok (.iconst 1, 1) := by decide +kernel
theorem dX10_noise_134 : decode cX10_noise 134 = .ok (.iadd, 1) := by decide +kernel
theorem dX10_noise_135 : decode cX10_noise 135 = .ok (.iastore, 1) := by decide +kernel
theorem dX10_noise_136 : decode cX10_noise 136 = .ok (.iload 5, 2) := by decide +kernel
theorem dX10_noise_138 : decode cX10_noise 138 = .ok (.ireturn, 1) := by decide +kernel
theorem dX10_of_0 : decode cX10_of 0 = .ok (.aload_n 0, 1) := by decide +kernel
theorem dX10_of_1 : decode cX10_of 1 = .ok (.iload_n 1, 1) := by decide +kernel
theorem dX10_of_2 : decode cX10_of 2 = .ok (.invokevirtual 202, 3) := by decide +kernel
theorem dX10_of_5 : decode cX10_of 5 = .ok (.ifCond .eq 30, 3) := by decide +kernel
theorem dX10_of_8 : decode cX10_of 8 = .ok (.iload_n 2, 1) := by decide +kernel
theorem dX10_of_9 : decode cX10_of 9 = .ok (.iconst 0, 1) := by decide +kernel
theorem dX10_of_10 : decode cX10_of 10 = .ok (.iconst 4, 1) := by decide +kernel
theorem dX10_of_11 : decode cX10_of 11 = .ok (.invokestatic 44, 3) := by decide +kernel
theorem dX10_of_14 : decode cX10_of 14 = .ok (.ifCond .eq 21, 3) := by decide +kernel
theorem dX10_of_17 : decode cX10_of 17 = .ok (.aload_n 0, 1) := by decide +kernel
theorem dX10_of_18 : decode cX10_of 18 = .ok (.getfield 9, 3) := by decide +kernel
theorem dX10_of_21 : decode cX10_of 21 = .ok (.sipush 250, 3) := by decide +kernel
theorem dX10_of_24 : decode cX10_of 24 = .ok (.bipush 10, 2) := by decide +kernel
theorem dX10_of_26 : decode cX10_of 26 = .ok (.iload_n 2, 1) := by decide +kernel
theorem dX10_of_27 : decode cX10_of 27 = .ok (.imul, 1) := by decide +kernel
theorem dX10_of_28 : decode cX10_of 28 = .ok (.iadd, 1) := by decide +kernel
theorem dX10_of_29 : decode cX10_of 29 = .ok (.iload_n 1, 1) := by decide +kernel
theorem dX10_of_30 : decode cX10_of 30 = .ok (.iadd, 1) := by decide +kernel
theorem dX10_of_31 : decode cX10_of 31 = .ok (.iaload, 1) := by decide +kernel
theorem dX10_of_32 : decode cX10_of 32 = .ok (.goto 4, 3) := by decide +kernel
theorem dX10_of_35 : decode cX10_of 35 = .ok (.iconst (-1), 1) := by decide +kernel
theorem dX10_of_36 : decode cX10_of 36 = .ok (.ireturn, 1) := by decide +kernel
theorem dX10_still_0 : decode cX10_still 0 = .ok (.aload_n 0, 1) := by decide +kernel
theorem dX10_still_1 : decode cX10_still 1 = .ok (.iload_n 1, 1) := by decide +kernel
theorem dX10_still_2 : decode cX10_still 2 = .ok (.invokevirtual 202, 3) := by decide +kernel
theorem dX10_still_5 : decode cX10_still 5 = .ok (.ifCond .ne 5, 3) := by decide +kernel
theorem dX10_still_8 : decode cX10_still 8 = .ok (.iconst (-1), 1) := by decide +kernel
theorem dX10_still_9 : decode cX10_still 9 = .ok (.ireturn, 1) := by decide +kernel
theorem dX10_still_10 : decode cX10_still 10 = .ok (.aload_n 0, 1) := by decide +kernel
theorem dX10_still_11 : decode cX10_still 11 = .ok (.getfield 9, 3) := by decide +kernel
theorem dX10_still_14 : decode cX10_still 14 = .ok (.sipush 290, 3) := by decide +kernel
theorem dX10_still_17 : decode cX10_still 17 = .ok (.iload_n 1, 1) := by decide +kernel
theorem dX10_still_18 : decode cX10_still 18 = .ok (.iadd, 1) := by decide +kernel
theorem dX10_still_19 : decode cX10_still 19 = .ok (.iaload, 1) := by decide +kernel
theorem dX10_still_20 : decode cX10_still 20 = .ok (.istore_n 3, 1) := by decide +kernel
theorem dX10_still_21 : decode cX10_still 21 = .ok (.aload_n 0, 1) := by decide +kernel
theorem dX10_still_22 : decode cX10_still 22 = .ok (.getfield 9, 3) := by decide +kernel
theorem dX10_still_25 : decode cX10_still 25 = .ok (.sipush 290, 3) := by decide +kernel
theorem dX10_still_28 : decode cX10_still 28 = .ok (.iload_n 1, 1) := by decide +kernel
theorem dX10_still_29 : decode cX10_still 29 = .ok (.iadd, 1) := by decide +kernel
theorem dX10_still_30 : decode cX10_still 30 = .ok (.iload_n 2, 1) := by decide +kernel
theorem dX10_still_31 : decode cX10_still 31 = .ok (.ifCond .eq 7, 3) := by decide +kernel
theorem dX10_still_34 : decode cX10_still 34 = .ok (.iconst 1, 1) := by decide +kernel
theorem dX10_still_35 : decode cX10_still 35 = .ok (.goto 4, 3) := by decide +kernel
theorem dX10_still_38 : decode cX10_still 38 = .ok (.iconst 0, 1) := by decide +kernel
theorem dX10_still_39 : decode cX10_still 39 = .ok (.iastore, 1) := by decide +kernel
theorem dX10_still_40 : decode cX10_still 40 = .ok (.iload_n 3, 1) := by decide +kernel
theorem dX10_still_41 : decode cX10_still 41 = .ok (.ireturn, 1) := by decide +kernel
theorem dX10_isStill_0 : decode cX10_isStill 0 = .ok (.aload_n 0, 1) := by decide +kernel
theorem dX10_isStill_1 : decode cX10_isStill 1 = .ok (.getfield 9, 3) := by decide +kernel
theorem dX10_isStill_4 : decode cX10_isStill 4 = .ok (.sipush 290, 3) := by decide +kernel
theorem dX10_isStill_7 : decode cX10_isStill 7 = .ok (.iload_n 1, 1) := by decide +kernel
theorem dX10_isStill_8 : decode cX10_isStill 8 = .ok (.iadd, 1) := by decide +kernel
theorem dX10_isStill_9 : decode cX10_isStill 9 = .ok (.iaload, 1) := by decide +kernel
theorem dX10_isStill_10 : decode cX10_isStill 10 = .ok (.iconst 1, 1) := by decide +kernel
theorem dX10_isStill_11 : decode cX10_isStill 11 = .ok (.if_icmp .ne 7, 3) := by decide +kernel
theorem dX10_isStill_14 : decode cX10_isStill 14 = .ok (.iconst 1, 1) := by decide +kernel
theorem dX10_isStill_15 : decode cX10_isStill 15 = .ok (.goto 4, 3) := by decide +kernel
theorem dX10_isStill_18 : decode cX10_isStill 18 = .ok (.iconst 0, 1) := by decide +kernel
theorem dX10_isStill_19 : decode cX10_isStill 19 = .ok (.ireturn, 1) := by decide +kernel
theorem dX10_knocks_0 : decode cX10_knocks 0 = .ok (.aload_n 0, 1) := by decide +kernel
theorem dX10_knocks_1 : decode cX10_knocks 1 = .ok (.iload_n 1, 1) := by decide +kernel
theorem dX10_knocks_2 : decode cX10_knocks 2 = .ok (.invokevirtual 202, 3) := by decide +kernel
theorem dX10_knocks_5 : decode cX10_knocks 5 = .ok (.ifCond .eq 19, 3) := by decide +kernel
theorem dX10_knocks_8 : decode cX10_knocks 8 = .ok (.iload_n 2, 1) := by decide +kernel
theorem dX10_knocks_9 : decode cX10_knocks 9 = .ok (.invokestatic 195, 3) := by decide +kernel
theorem dX10_knocks_12 : decode cX10_knocks 12 = .ok (.ifCond .eq 12, 3) := by decide +kernel
theorem dX10_knocks_15 : decode cX10_knocks 15 = .ok (.iload_n 3, 1) := by decide +kernel
theorem dX10_knocks_16 : decode cX10_knocks 16 = .ok (.iconst 0, 1) := by decide +kernel
theorem dX10_knocks_17 : decode cX10_knocks 17 = .ok (.iconst 2, 1) := by decide +kernel
theorem dX10_knocks_18 : decode cX10_knocks 18 = .ok (.invokestatic 44, 3) := by decide +kernel
theorem dX10_knocks_21 : decode cX10_knocks 21 = .ok (.ifCond .ne 5, 3) := by decide +kernel
theorem dX10_knocks_24 : decode cX10_knocks 24 = .ok (.iconst (-1), 1) := by decide +kernel
theorem dX10_knocks_25 : decode cX10_knocks 25 = .ok (.ireturn, 1) := by decide +kernel
theorem dX10_knocks_26 : decode cX10_knocks 26 = .ok (.aload_n 0, 1) := by decide +kernel
theorem dX10_knocks_27 : decode cX10_knocks 27 = .ok (.invokevirtual 205, 3) := by decide +kernel
theorem dX10_knocks_30 : decode cX10_knocks 30 = .ok (.aload_n 0, 1) := by decide +kernel
theorem dX10_knocks_31 : decode cX10_knocks 31 = .ok (.iload_n 1, 1) := by decide +kernel
theorem dX10_knocks_32 : decode cX10_knocks 32 = .ok (.iload_n 2, 1) := by decide +kernel
theorem dX10_knocks_33 : decode cX10_knocks 33 = .ok (.invokevirtual 170, 3) := by decide +kernel
theorem dX10_knocks_36 : decode cX10_knocks 36 = .ok (.istore 4, 2) := by decide +kernel
theorem dX10_knocks_38 : decode cX10_knocks 38 = .ok (.iload_n 3, 1) := by decide +kernel
theorem dX10_knocks_39 : decode cX10_knocks 39 = .ok (.ifCond .ne 8, 3) := by decide +kernel
theorem dX10_knocks_42 : decode cX10_knocks 42 = .ok (.iload 4, 2) := by decide +kernel
theorem dX10_knocks_44 : decode cX10_knocks 44 = .ok (.goto 38, 3) := by decide +kernel
theorem dX10_knocks_47 : decode cX10_knocks 47 = .ok (.iload_n 3, 1) := by decide +kernel
theorem dX10_knocks_48 : decode cX10_knocks 48 = .ok (.iconst 1, 1) := by decide +kernel
theorem dX10_knocks_49 : decode cX10_knocks 49 = .ok (.if_icmp .ne 10, 3) := by decide +kernel
theorem dX10_knocks_52 : decode cX10_knocks 52 = .ok (.aload_n 0, 1) := by decide +kernel
theorem dX10_knocks_53 : decode cX10_knocks 53 = .ok (.getfield 146, 3) := by decide +kernel
theorem dX10_knocks_56 : decode cX10_knocks 56 = .ok (.goto 26, 3) := by decide +kernel
theorem dX10_knocks_59 : decode cX10_knocks 59 = .ok (.aload_n 0, 1) := by decide +kernel
theorem dX10_knocks_60 : decode cX10_knocks 60 = .ok (.iload_n 1, 1) := by decide +kernel
theorem dX10_knocks_61 : decode cX10_knocks 61 = .ok (.invokevirtual 208, 3) := by decide +kernel
theorem dX10_knocks_64 : decode cX10_knocks 64 = .ok (.ifCond .eq 7, 3) := by decide +kernel
theorem dX10_knocks_67 : decode cX10_knocks 67 = .ok (.iconst 0, 1) := by decide +kernel
theorem dX10_knocks_68 : decode cX10_knocks 68 = .ok (.goto 14, 3) := by decide +kernel
theorem dX10_knocks_71 : decode cX10_knocks 71 = .ok (.aload_n 0, 1) := by decide +kernel
theorem dX10_knocks_72 : decode cX10_knocks 72 = .ok (.getfield 28, 3) := by decide +kernel
theorem dX10_knocks_75 : decode cX10_knocks 75 = .ok (.bipush 40, 2) := by decide +kernel
theorem dX10_knocks_77 : decode cX10_knocks 77 = .ok (.iload_n 1, 1) := by decide +kernel
theorem dX10_knocks_78 : decode cX10_knocks 78 = .ok (.imul, 1) := by decide +kernel
theorem dX10_knocks_79 : decode cX10_knocks 79 = .ok (.iload_n 2, 1) := by decide +kernel
theorem dX10_knocks_80 : decode cX10_knocks 80 = .ok (.iadd, 1) := by decide +kernel
theorem dX10_knocks_81 : decode cX10_knocks 81 = .ok (.iaload, 1) := by decide +kernel
theorem dX10_knocks_82 : decode cX10_knocks 82 = .ok (.ireturn, 1) := by decide +kernel
theorem dX10_isStruck_0 : decode cX10_isStruck 0 = .ok (.aload_n 0, 1) := by decide +kernel
theorem dX10_isStruck_1 : decode cX10_isStruck 1 = .ok (.getfield 9, 3) := by decide +kernel
theorem dX10_isStruck_4 : decode cX10_isStruck 4 = .ok (.sipush 250, 3) := by decide +kernel
theorem dX10_isStruck_7 : decode cX10_isStruck 7 = .ok (.iload_n 1, 1) := by decide +kernel
theorem dX10_isStruck_8 : decode cX10_isStruck 8 = .ok (.iadd, 1) := by decide +kernel
theorem dX10_isStruck_9 : decode cX10_isStruck 9 = .ok (.iaload, 1) := by decide +kernel
theorem dX10_isStruck_10 : decode cX10_isStruck 10 = .ok (.iconst 2, 1) := by decide +kernel
theorem dX10_isStruck_11 : decode cX10_isStruck 11 = .ok (.if_icmp .eq 17, 3) := by decide +kernel
theorem dX10_isStruck_14 : decode cX10_isStruck 14 = .ok (.aload_n 0, 1) := by decide +kernel
theorem dX10_isStruck_15 : decode cX10_isStruck 15 = .ok (.getfield 9, 3) := by decide +kernel
theorem dX10_isStruck_18 : decode cX10_isStruck 18 = .ok (.sipush 250, 3) := by decide +kernel
theorem dX10_isStruck_21 : decode cX10_isStruck 21 = .ok (.iload_n 1, 1) := by decide +kernel
theorem dX10_isStruck_22 : decode cX10_isStruck 22 = .ok (.iadd, 1) := by decide +kernel
theorem dX10_isStruck_23 : decode cX10_isStruck 23 = .ok (.iaload, 1) := by decide +kernel
theorem dX10_isStruck_24 : decode cX10_isStruck 24 = .ok (.iconst 5, 1) := by decide +kernel
theorem dX10_isStruck_25 : decode cX10_isStruck 25 = .ok (.if_icmp .ne 7, 3) := by decide +kernel
theorem dX10_isStruck_28 : decode cX10_isStruck 28 = .ok (.iconst 1, 1) := by decide +kernel
theorem dX10_isStruck_29 : decode cX10_isStruck 29 = .ok (.goto 4, 3) := by decide +kernel
theorem dX10_isStruck_32 : decode cX10_isStruck 32 = .ok (.iconst 0, 1) := by decide +kernel
theorem dX10_isStruck_33 : decode cX10_isStruck 33 = .ok (.ireturn, 1) := by decide +kernel
theorem dX10_loudOf_0 : decode cX10_loudOf 0 = .ok (.aload_n 0, 1) := by decide +kernel
theorem dX10_loudOf_1 : decode cX10_loudOf 1 = .ok (.getfield 9, 3) := by decide +kernel
theorem dX10_loudOf_4 : decode cX10_loudOf 4 = .ok (.sipush 280, 3) := by decide +kernel
theorem dX10_loudOf_7 : decode cX10_loudOf 7 = .ok (.iload_n 1, 1) := by decide +kernel
theorem dX10_loudOf_8 : decode cX10_loudOf 8 = .ok (.iadd, 1) := by decide +kernel
theorem dX10_loudOf_9 : decode cX10_loudOf 9 = .ok (.iaload, 1) := by decide +kernel
theorem dX10_loudOf_10 : decode cX10_loudOf 10 = .ok (.istore 4, 2) := by decide +kernel
theorem dX10_loudOf_12 : decode cX10_loudOf 12 = .ok (.aload_n 0, 1) := by decide +kernel
theorem dX10_loudOf_13 : decode cX10_loudOf 13 = .ok (.iload_n 1, 1) := by decide +kernel
theorem dX10_loudOf_14 : decode cX10_loudOf 14 = .ok (.invokevirtual 211, 3) := by decide +kernel
theorem dX10_loudOf_17 : decode cX10_loudOf 17 = .ok (.ifCond .eq 34, 3) := by decide +kernel
theorem dX10_loudOf_20 : decode cX10_loudOf 20 = .ok (.aload_n 0, 1) := by decide +kernel
theorem dX10_loudOf_21 : decode cX10_loudOf 21 = .ok (.getfield 214, 3) := by decide +kernel
theorem dX10_loudOf_24 : decode cX10_loudOf 24 = .ok (.ifCond .le 27, 3) := by decide +kernel
theorem dX10_loudOf_27 : decode cX10_loudOf 27 = .ok (.iload 4, 2) := by decide +kernel
theorem dX10_loudOf_29 : decode cX10_loudOf 29 = .ok (.aload_n 0, 1) := by decide +kernel
theorem dX10_loudOf_30 : decode cX10_loudOf 30 = .ok (.getfield 214, 3) := by decide +kernel
theorem dX10_loudOf_33 : decode cX10_loudOf 33 = .ok (.isub, 1) := by decide +kernel
theorem dX10_loudOf_34 : decode cX10_loudOf 34 = .ok (.iconst 1, 1) := by decide +kernel
theorem dX10_loudOf_35 : decode cX10_loudOf 35 = .ok (.if_icmp .ge 7, 3) := by decide +kernel
theorem dX10_loudOf_38 : decode cX10_loudOf 38 = .ok (.iconst 1, 1) := by decide +kernel
theorem dX10_loudOf_39 : decode cX10_loudOf 39 = .ok (.goto 10, 3) := by decide +kernel
theorem dX10_loudOf_42 : decode cX10_loudOf 42 = .ok (.iload 4, 2) := by decide +kernel
theorem dX10_loudOf_44 : decode cX10_loudOf 44 = .ok (.aload_n 0, 1) := by decide +kernel
theorem dX10_loudOf_45 : decode cX10_loudOf 45 = .ok (.getfield 214, 3) := by decide +kernel
theorem dX10_loudOf_48 : decode cX10_loudOf 48 = .ok (.isub, 1) := by decide +kernel
theorem dX10_loudOf_49 : decode cX10_loudOf 49 = .ok (.istore 4, 2) := by decide +kernel
theorem dX10_loudOf_51 : decode cX10_loudOf 51 = .ok (.iload_n 2, 1) := by decide +kernel
theorem dX10_loudOf_52 : decode cX10_loudOf 52 = .ok (.aload_n 0, 1) := by decide +kernel
theorem dX10_loudOf_53 : decode cX10_loudOf 53 = .ok (.getfield 9, 3) := by decide +kernel
theorem dX10_loudOf_56 : decode cX10_loudOf 56 = .ok (.sipush 260, 3) := by decide +kernel
theorem dX10_loudOf_59 : decode cX10_loudOf 59 = .ok (.iload_n 1, 1) := by decide +kernel
theorem dX10_loudOf_60 : decode cX10_loudOf 60 = .ok (.iadd, 1) := by decide +kernel
theorem dX10_loudOf_61 : decode cX10_loudOf 61 = .ok (.iaload, 1) := by decide +kernel
theorem dX10_loudOf_62 : decode cX10_loudOf 62 = .ok (.isub, 1) := by decide +kernel
theorem dX10_loudOf_63 : decode cX10_loudOf 63 = .ok (.invokestatic 173, 3) := by decide +kernel
theorem dX10_loudOf_66 : decode cX10_loudOf 66 = .ok (.istore 5, 2) := by decide +kernel
theorem dX10_loudOf_68 : decode cX10_loudOf 68 = .ok (.iload 4, 2) := by decide +kernel
theorem dX10_loudOf_70 : decode cX10_loudOf 70 = .ok (.aload_n 0, 1) := by decide +kernel
theorem dX10_loudOf_71 : decode cX10_loudOf 71 = .ok (.iconst 3, 1) := by decide +kernel
theorem dX10_loudOf_72 : decode cX10_loudOf 72 = .ok (.invokevirtual 162, 3) := by decide +kernel
theorem dX10_loudOf_75 : decode cX10_loudOf 75 = .ok (.iload 5, 2) := by decide +kernel
theorem dX10_loudOf_77 : decode cX10_loudOf 77 = .ok (.imul, 1) := by decide +kernel
theorem dX10_loudOf_78 : decode cX10_loudOf 78 = .ok (.isub, 1) := by decide +kernel
theorem dX10_loudOf_79 : decode cX10_loudOf 79 = .ok (.istore 6, 2) := by decide +kernel
theorem dX10_loudOf_81 : decode cX10_loudOf 81 = .ok (.aload_n 0, 1) := by decide +kernel
theorem dX10_loudOf_82 : decode cX10_loudOf 82 = .ok (.getfield 25, 3) := by decide +kernel
theorem dX10_loudOf_85 : decode cX10_loudOf 85 = .ok (.iload_n 3, 1) := by decide +kernel
theorem dX10_loudOf_86 : decode cX10_loudOf 86 = .ok (.iaload, 1) := by decide +kernel
theorem dX10_loudOf_87 : decode cX10_loudOf 87 = .ok (.ifCond .gt 11, 3) := by decide +kernel
theorem dX10_loudOf_90 : decode cX10_loudOf 90 = .ok (.aload_n 0, 1) := by decide +kernel
theorem dX10_loudOf_91 : decode cX10_loudOf 91 = .ok (.iload_n 1, 1) := by decide +kernel
theorem dX10_loudOf_92 : decode cX10_loudOf 92 = .ok (.invokevirtual 211, 3) := by decide +kernel
theorem dX10_loudOf_95 : decode cX10_loudOf 95 = .ok (.ifCond .eq 19, 3) := by decide +kernel
theorem dX10_loudOf_98 : decode cX10_loudOf 98 = .ok (.iload 4, 2) := by decide +kernel
theorem dX10_loudOf_100 : decode cX10_loudOf 100 = .ok (.iconst 5, 1) := by decide +kernel
theorem dX10_loudOf_101 : decode cX10_loudOf 101 = .ok (.isub, 1) := by decide +kernel
theorem dX10_loudOf_102 : decode cX10_loudOf 102 = .ok (.aload_n 0, 1) := by decide +kernel
theorem dX10_loudOf_103 : decode cX10_loudOf 103 = .ok (.iconst 2, 1) := by decide +kernel
theorem dX10_loudOf_104 : decode cX10_loudOf 104 = .ok (.invokevirtual 162, 3) := by decide +kernel
theorem dX10_loudOf_107 : decode cX10_loudOf 107 = .ok (.iload 5, 2) := by decide +kernel
theorem dX10_loudOf_109 : decode cX10_loudOf 109 = .ok (.imul, 1) := by decide +kernel
theorem dX10_loudOf_110 : decode cX10_loudOf 110 = .ok (.isub, 1) := by decide +kernel
theorem dX10_loudOf_111 : decode cX10_loudOf 111 = .ok (.goto 4, 3) := by decide +kernel
theorem dX10_loudOf_114 : decode cX10_loudOf 114 = .ok (.iconst 0, 1) := by decide +kernel
theorem dX10_loudOf_115 : decode cX10_loudOf 115 = .ok (.istore 7, 2) := by decide +kernel
theorem dX10_loudOf_117 : decode cX10_loudOf 117 = .ok (.iload 6, 2) := by decide +kernel
theorem dX10_loudOf_119 : decode cX10_loudOf 119 = .ok (.iload 7, 2) := by decide +kernel
theorem dX10_loudOf_121 : decode cX10_loudOf 121 = .ok (.if_icmp .le 8, 3) := by decide +kernel
theorem dX10_loudOf_124 : decode cX10_loudOf 124 = .ok (.iload 6, 2) := by decide +kernel
theorem dX10_loudOf_126 : decode cX10_loudOf 126 = .ok (.goto 5, 3) := by decide +kernel
theorem dX10_loudOf_129 : decode cX10_loudOf 129 = .ok (.iload 7, 2) := by decide +kernel
theorem dX10_loudOf_131 : decode cX10_loudOf 131 = .ok (.istore 8, 2) := by decide +kernel
theorem dX10_loudOf_133 : decode cX10_loudOf 133 = .ok (.iload 8, 2) := by decide +kernel
theorem dX10_loudOf_135 : decode cX10_loudOf 135 = .ok (.ifCond .ge 7, 3) := by decide +kernel
theorem dX10_loudOf_138 : decode cX10_loudOf 138 = .ok (.iconst 0, 1) := by decide +kernel
theorem dX10_loudOf_139 : decode cX10_loudOf 139 = .ok (.goto 5, 3) := by decide +kernel
theorem dX10_loudOf_142 : decode cX10_loudOf 142 = .ok (.iload 8, 2) := by decide +kernel
theorem dX10_loudOf_144 : decode cX10_loudOf 144 = .ok (.ireturn, 1) := by decide +kernel
theorem dX10_loud_0 : decode cX10_loud 0 = .ok (.aload_n 0, 1) := by decide +kernel
theorem dX10_loud_1 : decode cX10_loud 1 = .ok (.iload_n 1, 1) := by decide +kernel
theorem dX10_loud_2 : decode cX10_loud 2 = .ok (.invokevirtual 202, 3) := by decide +kernel
theorem dX10_loud_5 : decode cX10_loud 5 = .ok (.ifCond .eq 17, 3) := by decide +kernel
theorem dX10_loud_8 : decode cX10_loud 8 = .ok (.iload_n 2, 1) := by decide +kernel
theorem dX10_loud_9 : decode cX10_loud 9 = .ok (.invokestatic 199, 3) := by decide +kernel
theorem dX10_loud_12 : decode cX10_loud 12 = .ok (.ifCond .eq 10, 3) := by decide +kernel
theorem dX10_loud_15 : decode cX10_loud 15 = .ok (.iload_n 3, 1) := by decide +kernel
theorem dX10_loud_16 : decode cX10_loud 16 = .ok (.invokestatic 195, 3) := by decide +kernel
theorem dX10_loud_19 : decode cX10_loud 19 = .ok (.ifCond .ne 5, 3) := by decide +kernel
theorem dX10_loud_22 : decode cX10_loud 22 = .ok (.iconst (-1), 1) := by decide +kernel
theorem dX10_loud_23 : decode cX10_loud 23 = .ok (.ireturn, 1) := by decide +kernel
theorem dX10_loud_24 : decode cX10_loud 24 = .ok (.aload_n 0, 1) := by decide +kernel
theorem dX10_loud_25 : decode cX10_loud 25 = .ok (.invokevirtual 189, 3) := by decide +kernel
theorem dX10_loud_28 : decode cX10_loud 28 = .ok (.aload_n 0, 1) := by decide +kernel
theorem dX10_loud_29 : decode cX10_loud 29 = .ok (.iload_n 1, 1) := by decide +kernel
theorem dX10_loud_30 : decode cX10_loud 30 = .ok (.iload_n 2, 1) := by decide +kernel
theorem dX10_loud_31 : decode cX10_loud 31 = .ok (.iload_n 3, 1) := by decide +kernel
theorem dX10_loud_32 : decode cX10_loud 32 = .ok (.invokevirtual 217, 3) := by decide +kernel
theorem dX10_loud_35 : decode cX10_loud 35 = .ok (.ireturn, 1) := by decide +kernel
theorem dX10_moving_0 : decode cX10_moving 0 = .ok (.iconst 0, 1) := by decide +kernel
theorem dX10_moving_1 : decode cX10_moving 1 = .ok (.istore_n 1, 1) := by decide +kernel
theorem dX10_moving_2 : decode cX10_moving 2 = .ok (.iconst 0, 1) := by decide +kernel
theorem dX10_moving_3 : decode cX10_moving 3 = .ok (.istore_n 2, 1) := by decide +kernel
theorem dX10_moving_4 : decode cX10_moving 4 = .ok (.iload_n 2, 1) := by decide +kernel
theorem dX10_moving_5 : decode cX10_moving 5 = .ok (.aload_n 0, 1) := by decide +kernel
theorem dX10_moving_6 : decode cX10_moving 6 = .ok (.getfield 9, 3) := by decide +kernel
theorem dX10_moving_9 : decode cX10_moving 9 = .ok (.iconst 0, 1) := by decide +kernel
theorem dX10_moving_10 : decode cX10_moving 10 = .ok (.iaload, 1) := by decide +kernel
theorem dX10_moving_11 : decode cX10_moving 11 = .ok (.if_icmp .ge 27, 3) := by decide +kernel
theorem dX10_moving_14 : decode cX10_moving 14 = .ok (.iload_n 1, 1) := by decide +kernel
theorem dX10_moving_15 : decode cX10_moving 15 = .ok (.aload_n 0, 1) := by decide +kernel
theorem dX10_moving_16 : decode cX10_moving 16 = .ok (.iload_n 2, 1) := by decide +kernel
theorem dX10_moving_17 : decode cX10_moving 17 = .ok (.invokevirtual 208, 3) := by decide +kernel
theorem dX10_moving_20 : decode cX10_moving 20 = .ok (.ifCond .eq 7, 3) := by decide +kernel
theorem dX10_moving_23 : decode cX10_moving 23 = .ok (.iconst 0, 1) := by decide +kernel
theorem dX10_moving_24 : decode cX10_moving 24 = .ok (.goto 6, 3) := by decide +kernel
theorem dX10_moving_27 : decode cX10_moving 27 = .ok (.iconst 1, 1) := by decide +kernel
theorem dX10_moving_28 : decode cX10_moving 28 = .ok (.iload_n 2, 1) := by decide +kernel
theorem dX10_moving_29 : decode cX10_moving 29 = .ok (.ishl, 1) := by decide +kernel
theorem dX10_moving_30 : decode cX10_moving 30 = .ok (.ior, 1) := by decide +kernel
theorem dX10_moving_31 : decode cX10_moving 31 = .ok (.istore_n 1, 1) := by decide +kernel
theorem dX10_moving_32 : decode cX10_moving 32 = .ok (.iinc 2 1, 3) := by decide +kernel
theorem dX10_moving_35 : decode cX10_moving 35 = .ok (.goto (-31), 3) := by decide +kernel
theorem dX10_moving_38 : decode cX10_moving 38 = .ok (.iload_n 1, 1) := by decide +kernel
theorem dX10_moving_39 : decode cX10_moving 39 = .ok (.ireturn, 1) := by decide +kernel
theorem dX10_heardOf_0 : decode cX10_heardOf 0 = .ok (.iconst 0, 1) := by decide +kernel
theorem dX10_heardOf_1 : decode cX10_heardOf 1 = .ok (.istore 4, 2) := by decide +kernel
theorem dX10_heardOf_3 : decode cX10_heardOf 3 = .ok (.iconst 0, 1) := by decide +kernel
theorem dX10_heardOf_4 : decode cX10_heardOf 4 = .ok (.istore 5, 2) := by decide +kernel
theorem dX10_heardOf_6 : decode cX10_heardOf 6 = .ok (.iload 5, 2) := by decide +kernel
theorem dX10_heardOf_8 : decode cX10_heardOf 8 = .ok (.aload_n 0, 1) := by decide +kernel
theorem dX10_heardOf_9 : decode cX10_heardOf 9 = .ok (.getfield 9, 3) := by decide +kernel
theorem dX10_heardOf_12 : decode cX10_heardOf 12 = .ok (.iconst 0, 1) := by decide +kernel
theorem dX10_heardOf_13 : decode cX10_heardOf 13 = .ok (.iaload, 1) := by decide +kernel
theorem dX10_heardOf_14 : decode cX10_heardOf 14 = .ok (.if_icmp .ge 83, 3) := by decide +kernel
theorem dX10_heardOf_17 : decode cX10_heardOf 17 = .ok (.iload_n 1, 1) := by decide +kernel
theorem dX10_heardOf_18 : decode cX10_heardOf 18 = .ok (.iload 5, 2) := by decide +kernel
theorem dX10_heardOf_20 : decode cX10_heardOf 20 = .ok (.ishr, 1) := by decide +kernel
theorem dX10_heardOf_21 : decode cX10_heardOf 21 = .ok (.iconst 1, 1) := by decide +kernel
theorem dX10_heardOf_22 : decode cX10_heardOf 22 = .ok (.iand, 1) := by decide +kernel
theorem dX10_heardOf_23 : decode cX10_heardOf 23 = .ok (.iconst 1, 1) := by decide +kernel
theorem dX10_heardOf_24 : decode cX10_heardOf 24 = .ok (.if_icmp .ne 38, 3) := by decide +kernel
theorem dX10_heardOf_27 : decode cX10_heardOf 27 = .ok (.aload_n 0, 1) := by decide +kernel
theorem dX10_heardOf_28 : decode cX10_heardOf 28 = .ok (.getfield 28, 3) := by decide +kernel
theorem dX10_heardOf_31 : decode cX10_heardOf 31 = .ok (.bipush 40, 2) := by decide +kernel
theorem dX10_heardOf_33 : decode cX10_heardOf 33 = .ok (.iload 5, 2) := by decide +kernel
theorem dX10_heardOf_35 : decode cX10_heardOf 35 = .ok (.imul, 1) := by decide +kernel
theorem dX10_heardOf_36 : decode cX10_heardOf 36 = .ok (.iload_n 3, 1) := by decide +kernel
theorem dX10_heardOf_37 : decode cX10_heardOf 37 = .ok (.iadd, 1) := by decide +kernel
theorem dX10_heardOf_38 : decode cX10_heardOf 38 = .ok (.iaload, 1) := by decide +kernel
theorem dX10_heardOf_39 : decode cX10_heardOf 39 = .ok (.ifCond .le 23, 3) := by decide +kernel
theorem dX10_heardOf_42 : decode cX10_heardOf 42 = .ok (.aload_n 0, 1) := by decide +kernel
theorem dX10_heardOf_43 : decode cX10_heardOf 43 = .ok (.iload 5, 2) := by decide +kernel
theorem dX10_heardOf_45 : decode cX10_heardOf 45 = .ok (.iload_n 2, 1) := by decide +kernel
theorem dX10_heardOf_46 : decode cX10_heardOf 46 = .ok (.iload_n 3, 1) := by decide +kernel
theorem dX10_heardOf_47 : decode cX10_heardOf 47 = .ok (.invokevirtual 217, 3) := by decide +kernel
theorem dX10_heardOf_50 : decode cX10_heardOf 50 = .ok (.aload_n 0, 1) := by decide +kernel
theorem dX10_heardOf_51 : decode cX10_heardOf 51 = .ok (.iconst 4, 1) := by decide +kernel
theorem dX10_heardOf_52 : decode cX10_heardOf 52 = .ok (.invokevirtual 162, 3) := by decide +kernel
theorem dX10_heardOf_55 : decode cX10_heardOf 55 = .ok (.if_icmp .lt 7, 3) := by decide +kernel
theorem dX10_heardOf_58 : decode cX10_heardOf 58 = .ok (.iconst 1, 1) := by decide +kernel
theorem dX10_heardOf_59 : decode cX10_heardOf 59 = .ok (.goto 4, 3) := by decide +kernel
theorem dX10_heardOf_62 : decode cX10_heardOf 62 = .ok (.iconst 0, 1) := by decide +kernel
theorem dX10_heardOf_63 : decode cX10_heardOf 63 = .ok (.istore 6, 2) := by decide +kernel
theorem dX10_heardOf_65 : decode cX10_heardOf 65 = .ok (.iload 4, 2) := by decide +kernel
theorem dX10_heardOf_67 : decode cX10_heardOf 67 = .ok (.iload 6, 2) := by decide +kernel
theorem dX10_heardOf_69 : decode cX10_heardOf 69 = .ok (.ifCond .eq 18, 3) := by decide +kernel
theorem dX10_heardOf_72 : decode cX10_heardOf 72 = .ok (.aload_n 0, 1) := by decide +kernel
theorem dX10_heardOf_73 : decode cX10_heardOf 73 = .ok (.getfield 28, 3) := by decide +kernel
theorem dX10_heardOf_76 : decode cX10_heardOf 76 = .ok (.bipush 40, 2) := by decide +kernel
theorem dX10_heardOf_78 : decode cX10_heardOf 78 = .ok (.iload 5, 2) := by decide +kernel
theorem dX10_heardOf_80 : decode cX10_heardOf 80 = .ok (.imul, 1) := by decide +kernel
theorem dX10_heardOf_81 : decode cX10_heardOf 81 = .ok (.iload_n 3, 1) := by decide +kernel
theorem dX10_heardOf_82 : decode cX10_heardOf 82 = .ok (.iadd, 1) := by decide +kernel
theorem dX10_heardOf_83 : decode cX10_heardOf 83 = .ok (.iaload, 1) := by decide +kernel
theorem dX10_heardOf_84 : decode cX10_heardOf 84 = .ok (.goto 4, 3) := by decide +kernel
theorem dX10_heardOf_87 : decode cX10_heardOf 87 = .ok (.iconst 0, 1) := by decide +kernel
theorem dX10_heardOf_88 : decode cX10_heardOf 88 = .ok (.iadd, 1) := by decide +kernel
theorem dX10_heardOf_89 : decode cX10_heardOf 89 = .ok (.istore 4, 2) := by decide +kernel
theorem dX10_heardOf_91 : decode cX10_heardOf 91 = .ok (.iinc 5 1, 3) := by decide +kernel
theorem dX10_heardOf_94 : decode cX10_heardOf 94 = .ok (.goto (-88), 3) := by decide +kernel
theorem dX10_heardOf_97 : decode cX10_heardOf 97 = .ok (.iload 4, 2) := by decide +kernel
theorem dX10_heardOf_99 : decode cX10_heardOf 99 = .ok (.ireturn, 1) := by decide +kernel
theorem dX10_heardAll_0 : decode cX10_heardAll 0 = .ok (.iconst 0, 1) := by decide +kernel
theorem dX10_heardAll_1 : decode cX10_heardAll 1 = .ok (.istore_n 3, 1) := by decide +kernel
theorem dX10_heardAll_2 : decode cX10_heardAll 2 = .ok (.iconst 0, 1) := by decide +kernel
theorem dX10_heardAll_3 : decode cX10_heardAll 3 = .ok (.istore 4, 2) := by decide +kernel
theorem dX10_heardAll_5 : decode cX10_heardAll 5 = .ok (.iload 4, 2) := by decide +kernel
theorem dX10_heardAll_7 : decode cX10_heardAll 7 = .ok (.bipush 40, 2) := by decide +kernel
theorem dX10_heardAll_9 : decode cX10_heardAll 9 = .ok (.if_icmp .ge 20, 3) := by decide +kernel
theorem dX10_heardAll_12 : decode cX10_heardAll 12 = .ok (.iload_n 3, 1) := by decide +kernel
theorem dX10_heardAll_13 : decode cX10_heardAll 13 = .ok (.aload_n 0, 1) := by decide +kernel
theorem dX10_heardAll_14 : decode cX10_heardAll 14 = .ok (.iload_n 1, 1) := by decide +kernel
theorem dX10_heardAll_15 : decode cX10_heardAll 15 = .ok (.iload_n 2, 1) := by decide +kernel
theorem dX10_heardAll_16 : decode cX10_heardAll 16 = .ok (.iload 4, 2) := by decide +kernel
theorem dX10_heardAll_18 : decode cX10_heardAll 18 = .ok (.invokevirtual 221, 3) := by decide +kernel
theorem dX10_heardAll_21 : decode cX10_heardAll 21 = .ok (.iadd, 1) := by decide +kernel
theorem dX10_heardAll_22 : decode cX10_heardAll 22 = .ok (.istore_n 3, 1) := by decide +kernel
theorem dX10_heardAll_23 : decode cX10_heardAll 23 = .ok (.iinc 4 1, 3) := by decide +kernel
theorem dX10_heardAll_26 : decode cX10_heardAll 26 = .ok (.goto (-21), 3) := by decide +kernel
theorem dX10_heardAll_29 : decode cX10_heardAll 29 = .ok (.iload_n 3, 1) := by decide +kernel
theorem dX10_heardAll_30 : decode cX10_heardAll 30 = .ok (.ireturn, 1) := by decide +kernel
theorem dX10_heard_0 : decode cX10_heard 0 = .ok (.iload_n 1, 1) := by decide +kernel
theorem dX10_heard_1 : decode cX10_heard 1 = .ok (.invokestatic 199, 3) := by decide +kernel
theorem dX10_heard_4 : decode cX10_heard 4 = .ok (.ifCond .eq 15, 3) := by decide +kernel
theorem dX10_heard_7 : decode cX10_heard 7 = .ok (.iload_n 2, 1) := by decide +kernel
theorem dX10_heard_8 : decode cX10_heard 8 = .ok (.iconst (-1), 1) := by decide +kernel
theorem dX10_heard_9 : decode cX10_heard 9 = .ok (.if_icmp .eq 12, 3) := by decide +kernel
theorem dX10_heard_12 : decode cX10_heard 12 = .ok (.iload_n 2, 1) := by decide +kernel
theorem dX10_heard_13 : decode cX10_heard 13 = .ok (.invokestatic 195, 3) := by decide +kernel
theorem dX10_heard_16 : decode cX10_heard 16 = .ok (.ifCond .ne 5, 3) := by decide +kernel
theorem dX10_heard_19 : decode cX10_heard 19 = .ok (.iconst (-1), 1) := by decide +kernel
theorem dX10_heard_20 : decode cX10_heard 20 = .ok (.ireturn, 1) := by decide +kernel
theorem dX10_heard_21 : decode cX10_heard 21 = .ok (.aload_n 0, 1) := by decide +kernel
theorem dX10_heard_22 : decode cX10_heard 22 = .ok (.invokevirtual 205, 3) := by decide +kernel
theorem dX10_heard_25 : decode cX10_heard 25 = .ok (.iload_n 2, 1) := by decide +kernel
theorem dX10_heard_26 : decode cX10_heard 26 = .ok (.iconst (-1), 1) := by decide +kernel
theorem dX10_heard_27 : decode cX10_heard 27 = .ok (.if_icmp .ne 15, 3) := by decide +kernel
theorem dX10_heard_30 : decode cX10_heard 30 = .ok (.aload_n 0, 1) := by decide +kernel
theorem dX10_heard_31 : decode cX10_heard 31 = .ok (.aload_n 0, 1) := by decide +kernel
theorem dX10_heard_32 : decode cX10_heard 32 = .ok (.invokevirtual 224, 3) := by decide +kernel
theorem dX10_heard_35 : decode cX10_heard 35 = .ok (.iload_n 1, 1) := by decide +kernel
theorem dX10_heard_36 : decode cX10_heard 36 = .ok (.invokevirtual 227, 3) := by decide +kernel
theorem dX10_heard_39 : decode cX10_heard 39 = .ok (.goto 13, 3) := by decide +kernel
theorem dX10_heard_42 : decode cX10_heard 42 = .ok (.aload_n 0, 1) := by decide +kernel
theorem dX10_heard_43 : decode cX10_heard 43 = .ok (.aload_n 0, 1) := by decide +kernel
theorem dX10_heard_44 : decode cX10_heard 44 = .ok (.invokevirtual 224, 3) := by decide +kernel
theorem dX10_heard_47 : decode cX10_heard 47 = .ok (.iload_n 1, 1) := by decide +kernel
theorem dX10_heard_48 : decode cX10_heard 48 = .ok (.iload_n 2, 1) := by decide +kernel
theorem dX10_heard_49 : decode cX10_heard 49 = .ok (.invokevirtual 221, 3) := by decide +kernel
theorem dX10_heard_52 : decode cX10_heard 52 = .ok (.ireturn, 1) := by decide +kernel
theorem dX10_seems_0 : decode cX10_seems 0 = .ok (.iload_n 1, 1) := by decide +kernel
theorem dX10_seems_1 : decode cX10_seems 1 = .ok (.invokestatic 195, 3) := by decide +kernel
theorem dX10_seems_4 : decode cX10_seems 4 = .ok (.ifCond .ne 5, 3) := by decide +kernel
theorem dX10_seems_7 : decode cX10_seems 7 = .ok (.iconst (-1), 1) := by decide +kernel
theorem dX10_seems_8 : decode cX10_seems 8 = .ok (.ireturn, 1) := by decide +kernel
theorem dX10_seems_9 : decode cX10_seems 9 = .ok (.aload_n 0, 1) := by decide +kernel
theorem dX10_seems_10 : decode cX10_seems 10 = .ok (.invokevirtual 205, 3) := by decide +kernel
theorem dX10_seems_13 : decode cX10_seems 13 = .ok (.iconst 0, 1) := by decide +kernel
theorem dX10_seems_14 : decode cX10_seems 14 = .ok (.istore_n 2, 1) := by decide +kernel
theorem dX10_seems_15 : decode cX10_seems 15 = .ok (.iconst 0, 1) := by decide +kernel
theorem dX10_seems_16 : decode cX10_seems 16 = .ok (.istore_n 3, 1) := by decide +kernel
theorem dX10_seems_17 : decode cX10_seems 17 = .ok (.iload_n 3, 1) := by decide +kernel
theorem dX10_seems_18 : decode cX10_seems 18 = .ok (.aload_n 0, 1) := by decide +kernel
theorem dX10_seems_19 : decode cX10_seems 19 = .ok (.getfield 9, 3) := by decide +kernel
theorem dX10_seems_22 : decode cX10_seems 22 = .ok (.iconst 0, 1) := by decide +kernel
theorem dX10_seems_23 : decode cX10_seems 23 = .ok (.iaload, 1) := by decide +kernel
theorem dX10_seems_24 : decode cX10_seems 24 = .ok (.if_icmp .ge 41, 3) := by decide +kernel
theorem dX10_seems_27 : decode cX10_seems 27 = .ok (.iload_n 2, 1) := by decide +kernel
theorem dX10_seems_28 : decode cX10_seems 28 = .ok (.aload_n 0, 1) := by decide +kernel
theorem dX10_seems_29 : decode cX10_seems 29 = .ok (.iload_n 3, 1) := by decide +kernel
theorem dX10_seems_30 : decode cX10_seems 30 = .ok (.invokevirtual 208, 3) := by decide +kernel
theorem dX10_seems_33 : decode cX10_seems 33 = .ok (.ifCond .ne 23, 3) := by decide +kernel
theorem dX10_seems_36 : decode cX10_seems 36 = .ok (.aload_n 0, 1) := by decide +kernel
theorem dX10_seems_37 : decode cX10_seems 37 = .ok (.getfield 28, 3) := by decide +kernel
theorem dX10_seems_40 : decode cX10_seems 40 = .ok (.bipush 40, 2) := by decide +kernel
theorem dX10_seems_42 : decode cX10_seems 42 = .ok (.iload_n 3, 1) := by decide +kernel
theorem dX10_seems_43 : decode cX10_seems 43 = .ok (.imul, 1) := by decide +kernel
theorem dX10_seems_44 : decode cX10_seems 44 = .ok (.iload_n 1, 1) := by decide +kernel
theorem dX10_seems_45 : decode cX10_seems 45 = .ok (.iadd, 1) := by decide +kernel
theorem dX10_seems_46 : decode cX10_seems 46 = .ok (.iaload, 1) := by decide +kernel
theorem dX10_seems_47 : decode cX10_seems 47 = .ok (.ifCond .le 9, 3) := by decide +kernel
theorem dX10_seems_50 : decode cX10_seems 50 = .ok (.iconst 1, 1) := by decide +kernel
theorem dX10_seems_51 : decode cX10_seems 51 = .ok (.iload_n 3, 1) := by decide +kernel
theorem dX10_seems_52 : decode cX10_seems 52 = .ok (.ishl, 1) := by decide +kernel
theorem dX10_seems_53 : decode cX10_seems 53 = .ok (.goto 4, 3) := by decide +kernel
theorem dX10_seems_56 : decode cX10_seems 56 = .ok (.iconst 0, 1) := by decide +kernel
theorem dX10_seems_57 : decode cX10_seems 57 = .ok (.ior, 1) := by decide +kernel
theorem dX10_seems_58 : decode cX10_seems 58 = .ok (.istore_n 2, 1) := by decide +kernel
theorem dX10_seems_59 : decode cX10_seems 59 = .ok (.iinc 3 1, 3) := by decide +kernel
theorem dX10_seems_62 : decode cX10_seems 62 = .ok (.goto (-45), 3) := by decide +kernel
theorem dX10_seems_65 : decode cX10_seems 65 = .ok (.bipush (-5), 2) := by decide +kernel
theorem dX10_seems_67 : decode cX10_seems 67 = .ok (.istore_n 3, 1) := by decide +kernel
theorem dX10_seems_68 : decode cX10_seems 68 = .ok (.iconst (-1), 1) := by decide +kernel
theorem dX10_seems_69 : decode cX10_seems 69 = .ok (.istore 4, 2) := by decide +kernel
theorem dX10_seems_71 : decode cX10_seems 71 = .ok (.iconst 0, 1) := by decide +kernel
theorem dX10_seems_72 : decode cX10_seems 72 = .ok (.istore 5, 2) := by decide +kernel
theorem dX10_seems_74 : decode cX10_seems 74 = .ok (.iload 5, 2) := by decide +kernel
theorem dX10_seems_76 : decode cX10_seems 76 = .ok (.bipush 10, 2) := by decide +kernel
theorem dX10_seems_78 : decode cX10_seems 78 = .ok (.if_icmp .ge 94, 3) := by decide +kernel
theorem dX10_seems_81 : decode cX10_seems 81 = .ok (.iload_n 2, 1) := by decide +kernel
theorem dX10_seems_82 : decode cX10_seems 82 = .ok (.ifCond .eq 90, 3) := by decide +kernel
theorem dX10_seems_85 : decode cX10_seems 85 = .ok (.iconst 0, 1) := by decide +kernel
theorem dX10_seems_86 : decode cX10_seems 86 = .ok (.istore 6, 2) := by decide +kernel
theorem dX10_seems_88 : decode cX10_seems 88 = .ok (.iconst 0, 1) := by decide +kernel
theorem dX10_seems_89 : decode cX10_seems 89 = .ok (.istore 7, 2) := by decide +kernel
theorem dX10_seems_91 : decode cX10_seems 91 = .ok (.iload 7, 2) := by decide +kernel
theorem dX10_seems_93 : decode cX10_seems 93 = .ok (.aload_n 0, 1) := by decide +kernel
theorem dX10_seems_94 : decode cX10_seems 94 = .ok (.getfield 9, 3) := by decide +kernel
theorem dX10_seems_97 : decode cX10_seems 97 = .ok (.iconst 0, 1) := by decide +kernel
theorem dX10_seems_98 : decode cX10_seems 98 = .ok (.iaload, 1) := by decide +kernel
theorem dX10_seems_99 : decode cX10_seems 99 = .ok (.if_icmp .ge 37, 3) := by decide +kernel
theorem dX10_seems_102 : decode cX10_seems 102 = .ok (.iload 6, 2) := by decide +kernel
theorem dX10_seems_104 : decode cX10_seems 104 = .ok (.iload_n 2, 1) := by decide +kernel
theorem dX10_seems_105 : decode cX10_seems 105 = .ok (.iload 7, 2) := by decide +kernel
theorem dX10_seems_107 : decode cX10_seems 107 = .ok (.ishr, 1) := by decide +kernel
theorem dX10_seems_108 : decode cX10_seems 108 = .ok (.iconst 1, 1) := by decide +kernel
theorem dX10_seems_109 : decode cX10_seems 109 = .ok (.iand, 1) := by decide +kernel
theorem dX10_seems_110 : decode cX10_seems 110 = .ok (.iconst 1, 1) := by decide +kernel
theorem dX10_seems_111 : decode cX10_seems 111 = .ok (.if_icmp .ne 15, 3) := by decide +kernel
theorem dX10_seems_114 : decode cX10_seems 114 = .ok (.aload_n 0, 1) := by decide +kernel
theorem dX10_seems_115 : decode cX10_seems 115 = .ok (.iload 7, 2) := by decide +kernel
theorem dX10_seems_117 : decode cX10_seems 117 = .ok (.iload 5, 2) := by decide +kernel
theorem dX10_seems_119 : decode cX10_seems 119 = .ok (.iload_n 1, 1) := by decide +kernel
theorem dX10_seems_120 : decode cX10_seems 120 = .ok (.invokevirtual 217, 3) := by decide +kernel
theorem dX10_seems_123 : decode cX10_seems 123 = .ok (.goto 4, 3) := by decide +kernel
theorem dX10_seems_126 : decode cX10_seems 126 = .ok (.iconst 0, 1) := by decide +kernel
theorem dX10_seems_127 : decode cX10_seems 127 = .ok (.iadd, 1) := by decide +kernel
theorem dX10_seems_128 : decode cX10_seems 128 = .ok (.istore 6, 2) := by decide +kernel
theorem dX10_seems_130 : decode cX10_seems 130 = .ok (.iinc 7 1, 3) := by decide +kernel
theorem dX10_seems_133 : decode cX10_seems 133 = .ok (.goto (-42), 3) := by decide +kernel
theorem dX10_seems_136 : decode cX10_seems 136 = .ok (.iload 6, 2) := by decide +kernel
theorem dX10_seems_138 : decode cX10_seems 138 = .ok (.iload 4, 2) := by decide +kernel
theorem dX10_seems_140 : decode cX10_seems 140 = .ok (.if_icmp .le 8, 3) := by decide +kernel
theorem dX10_seems_143 : decode cX10_seems 143 = .ok (.iload 5, 2) := by decide +kernel
theorem dX10_seems_145 : decode cX10_seems 145 = .ok (.goto 4, 3) := by decide +kernel
theorem dX10_seems_148 : decode cX10_seems 148 = .ok (.iload_n 3, 1) := by decide +kernel
theorem dX10_seems_149 : decode cX10_seems 149 = .ok (.istore_n 3, 1) := by decide +kernel
theorem dX10_seems_150 : decode cX10_seems 150 = .ok (.iload 6, 2) := by decide +kernel
theorem dX10_seems_152 : decode cX10_seems 152 = .ok (.iload 4, 2) := by decide +kernel
theorem dX10_seems_154 : decode cX10_seems 154 = .ok (.if_icmp .le 8, 3) := by decide +kernel
theorem dX10_seems_157 : decode cX10_seems 157 = .ok (.iload 6, 2) := by decide +kernel
theorem dX10_seems_159 : decode cX10_seems 159 = .ok (.goto 5, 3) := by decide +kernel
theorem dX10_seems_162 : decode cX10_seems 162 = .ok (.iload 4, 2) := by decide +kernel
theorem dX10_seems_164 : decode cX10_seems 164 = .ok (.istore 4, 2) := by decide +kernel
theorem dX10_seems_166 : decode cX10_seems 166 = .ok (.iinc 5 1, 3) := by decide +kernel
theorem dX10_seems_169 : decode cX10_seems 169 = .ok (.goto (-95), 3) := by decide +kernel
theorem dX10_seems_172 : decode cX10_seems 172 = .ok (.iload_n 3, 1) := by decide +kernel
theorem dX10_seems_173 : decode cX10_seems 173 = .ok (.ireturn, 1) := by decide +kernel
theorem dX10_note_0 : decode cX10_note 0 = .ok (.iload_n 1, 1) := by decide +kernel
theorem dX10_note_1 : decode cX10_note 1 = .ok (.invokestatic 199, 3) := by decide +kernel
theorem dX10_note_4 : decode cX10_note 4 = .ok (.ifCond .eq 10, 3) := by decide +kernel
theorem dX10_note_7 : decode cX10_note 7 = .ok (.iload_n 2, 1) := by decide +kernel
theorem dX10_note_8 : decode cX10_note 8 = .ok (.invokestatic 195, 3) := by decide +kernel
theorem dX10_note_11 : decode cX10_note 11 = .ok (.ifCond .ne 5, 3) := by decide +kernel
theorem dX10_note_14 : decode cX10_note 14 = .ok (.iconst (-1), 1) := by decide +kernel
theorem dX10_note_15 : decode cX10_note 15 = .ok (.ireturn, 1) := by decide +kernel
theorem dX10_note_16 : decode cX10_note 16 = .ok (.iload_n 3, 1) := by decide +kernel
theorem dX10_note_17 : decode cX10_note 17 = .ok (.iconst 0, 1) := by decide +kernel
theorem dX10_note_18 : decode cX10_note 18 = .ok (.bipush 99, 2) := by decide +kernel
theorem dX10_note_20 : decode cX10_note 20 = .ok (.invokestatic 44, 3) := by decide +kernel
theorem dX10_note_23 : decode cX10_note 23 = .ok (.ifCond .ne 6, 3) := by decide +kernel
theorem dX10_note_26 : decode cX10_note 26 = .ok (.bipush (-2), 2) := by decide +kernel
theorem dX10_note_28 : decode cX10_note 28 = .ok (.ireturn, 1) := by decide +kernel
theorem dX10_note_29 : decode cX10_note 29 = .ok (.aload_n 0, 1) := by decide +kernel
theorem dX10_note_30 : decode cX10_note 30 = .ok (.getfield 9, 3) := by decide +kernel
theorem dX10_note_33 : decode cX10_note 33 = .ok (.iconst 2, 1) := by decide +kernel
theorem dX10_note_34 : decode cX10_note 34 = .ok (.iaload, 1) := by decide +kernel
theorem dX10_note_35 : decode cX10_note 35 = .ok (.bipush 12, 2) := by decide +kernel
theorem dX10_note_37 : decode cX10_note 37 = .ok (.if_icmp .ne 6, 3) := by decide +kernel
theorem dX10_note_40 : decode cX10_note 40 = .ok (.bipush (-4), 2) := by decide +kernel
theorem dX10_note_42 : decode cX10_note 42 = .ok (.ireturn, 1) := by decide +kernel
theorem dX10_note_43 : decode cX10_note 43 = .ok (.aload_n 0, 1) := by decide +kernel
theorem dX10_note_44 : decode cX10_note 44 = .ok (.getfield 9, 3) := by decide +kernel
theorem dX10_note_47 : decode cX10_note 47 = .ok (.sipush 300, 3) := by decide +kernel
theorem dX10_note_50 : decode cX10_note 50 = .ok (.aload_n 0, 1) := by decide +kernel
theorem dX10_note_51 : decode cX10_note 51 = .ok (.getfield 9, 3) := by decide +kernel
theorem dX10_note_54 : decode cX10_note 54 = .ok (.iconst 2, 1) := by decide +kernel
theorem dX10_note_55 : decode cX10_note 55 = .ok (.iaload, 1) := by decide +kernel
theorem dX10_note_56 : decode cX10_note 56 = .ok (.iadd, 1) := by decide +kernel
theorem dX10_note_57 : decode cX10_note 57 = .ok (.iload_n 1, 1) := by decide +kernel
theorem dX10_note_58 : decode cX10_note 58 = .ok (.iastore, 1) := by decide +kernel
theorem dX10_note_59 : decode cX10_note 59 = .ok (.aload_n 0, 1) := by decide +kernel
theorem dX10_note_60 : decode cX10_note 60 = .ok (.getfield 9, 3) := by decide +kernel
theorem dX10_note_63 : decode cX10_note 63 = .ok (.sipush 312, 3) := by decide +kernel
theorem dX10_note_66 : decode cX10_note 66 = .ok (.aload_n 0, 1) := by decide +kernel
theorem dX10_note_67 : decode cX10_note 67 = .ok (.getfield 9, 3) := by decide +kernel
theorem dX10_note_70 : decode cX10_note 70 = .ok (.iconst 2, 1) := by decide +kernel
theorem dX10_note_71 : decode cX10_note 71 = .ok (.iaload, 1) := by decide +kernel
theorem dX10_note_72 : decode cX10_note 72 = .ok (.iadd, 1) := by decide +kernel
theorem dX10_note_73 : decode cX10_note 73 = .ok (.iload_n 2, 1) := by decide +kernel
theorem dX10_note_74 : decode cX10_note 74 = .ok (.iastore, 1) := by decide +kernel
theorem dX10_note_75 : decode cX10_note 75 = .ok (.aload_n 0, 1) := by decide +kernel
theorem dX10_note_76 : decode cX10_note 76 = .ok (.getfield 9, 3) := by decide +kernel
theorem dX10_note_79 : decode cX10_note 79 = .ok (.sipush 324, 3) := by decide +kernel
theorem dX10_note_82 : decode cX10_note 82 = .ok (.aload_n 0, 1) := by decide +kernel
theorem dX10_note_83 : decode cX10_note 83 = .ok (.getfield 9, 3) := by decide +kernel
theorem dX10_note_86 : decode cX10_note 86 = .ok (.iconst 2, 1) := by decide +kernel
theorem dX10_note_87 : decode cX10_note 87 = .ok (.iaload, 1) := by decide +kernel
theorem dX10_note_88 : decode cX10_note 88 = .ok (.iadd, 1) := by decide +kernel
theorem dX10_note_89 : decode cX10_note 89 = .ok (.iload_n 3, 1) := by decide +kernel
theorem dX10_note_90 : decode cX10_note 90 = .ok (.iastore, 1) := by decide +kernel
theorem dX10_note_91 : decode cX10_note 91 = .ok (.aload_n 0, 1) := by decide +kernel
theorem dX10_note_92 : decode cX10_note 92 = .ok (.getfield 9, 3) := by decide +kernel
theorem dX10_note_95 : decode cX10_note 95 = .ok (.iconst 2, 1) := by decide +kernel
theorem dX10_note_96 : decode cX10_note 96 = .ok (.dup2, 1) := by decide +kernel
theorem dX10_note_97 : decode cX10_note 97 = .ok (.iaload, 1) := by decide +kernel
theorem dX10_note_98 : decode cX10_note 98 = .ok (.iconst 1, 1) := by decide +kernel
theorem dX10_note_99 : decode cX10_note 99 = .ok (.iadd, 1) := by decide +kernel
theorem dX10_note_100 : decode cX10_note 100 = .ok (.iastore, 1) := by decide +kernel
theorem dX10_note_101 : decode cX10_note 101 = .ok (.aload_n 0, 1) := by decide +kernel
theorem dX10_note_102 : decode cX10_note 102 = .ok (.getfield 9, 3) := by decide +kernel
theorem dX10_note_105 : decode cX10_note 105 = .ok (.iconst 2, 1) := by decide +kernel
theorem dX10_note_106 : decode cX10_note 106 = .ok (.iaload, 1) := by decide +kernel
theorem dX10_note_107 : decode cX10_note 107 = .ok (.ireturn, 1) := by decide +kernel
theorem dX10_clear_0 : decode cX10_clear 0 = .ok (.aload_n 0, 1) := by decide +kernel
theorem dX10_clear_1 : decode cX10_clear 1 = .ok (.getfield 9, 3) := by decide +kernel
theorem dX10_clear_4 : decode cX10_clear 4 = .ok (.iconst 2, 1) := by decide +kernel
theorem dX10_clear_5 : decode cX10_clear 5 = .ok (.iaload, 1) := by decide +kernel
theorem dX10_clear_6 : decode cX10_clear 6 = .ok (.istore_n 1, 1) := by decide +kernel
theorem dX10_clear_7 : decode cX10_clear 7 = .ok (.aload_n 0, 1) := by decide +kernel
theorem dX10_clear_8 : decode cX10_clear 8 = .ok (.getfield 9, 3) := by decide +kernel
theorem dX10_clear_11 : decode cX10_clear 11 = .ok (.iconst 2, 1) := by decide +kernel
theorem dX10_clear_12 : decode cX10_clear 12 = .ok (.iconst 0, 1) := by decide +kernel
theorem dX10_clear_13 : decode cX10_clear 13 = .ok (.iastore, 1) := by decide +kernel
theorem dX10_clear_14 : decode cX10_clear 14 = .ok (.iload_n 1, 1) := by decide +kernel
theorem dX10_clear_15 : decode cX10_clear 15 = .ok (.ireturn, 1) := by decide +kernel
theorem dX10_fitsOf_0 : decode cX10_fitsOf 0 = .ok (.iconst 0, 1) := by decide +kernel
theorem dX10_fitsOf_1 : decode cX10_fitsOf 1 = .ok (.istore_n 2, 1) := by decide +kernel
theorem dX10_fitsOf_2 : decode cX10_fitsOf 2 = .ok (.iconst 0, 1) := by decide +kernel
theorem dX10_fitsOf_3 : decode cX10_fitsOf 3 = .ok (.istore_n 3, 1) := by decide +kernel
theorem dX10_fitsOf_4 : decode cX10_fitsOf 4 = .ok (.iload_n 3, 1) := by decide +kernel
theorem dX10_fitsOf_5 : decode cX10_fitsOf 5 = .ok (.aload_n 0, 1) := by decide +kernel
theorem dX10_fitsOf_6 : decode cX10_fitsOf 6 = .ok (.getfield 9, 3) := by decide +kernel
theorem dX10_fitsOf_9 : decode cX10_fitsOf 9 = .ok (.iconst 2, 1) := by decide +kernel
theorem dX10_fitsOf_10 : decode cX10_fitsOf 10 = .ok (.iaload, 1) := by decide +kernel
theorem dX10_fitsOf_11 : decode cX10_fitsOf 11 = .ok (.if_icmp .ge 57, 3) := by decide +kernel
theorem dX10_fitsOf_14 : decode cX10_fitsOf 14 = .ok (.iload_n 2, 1) := by decide +kernel
theorem dX10_fitsOf_15 : decode cX10_fitsOf 15 = .ok (.aload_n 0, 1) := by decide +kernel
theorem dX10_fitsOf_16 : decode cX10_fitsOf 16 = .ok (.iload_n 1, 1) := by decide +kernel
theorem dX10_fitsOf_17 : decode cX10_fitsOf 17 = .ok (.aload_n 0, 1) := by decide +kernel
theorem dX10_fitsOf_18 : decode cX10_fitsOf 18 = .ok (.getfield 9, 3) := by decide +kernel
theorem dX10_fitsOf_21 : decode cX10_fitsOf 21 = .ok (.sipush 300, 3) := by decide +kernel
theorem dX10_fitsOf_24 : decode cX10_fitsOf 24 = .ok (.iload_n 3, 1) := by decide +kernel
theorem dX10_fitsOf_25 : decode cX10_fitsOf 25 = .ok (.iadd, 1) := by decide +kernel
theorem dX10_fitsOf_26 : decode cX10_fitsOf 26 = .ok (.iaload, 1) := by decide +kernel
theorem dX10_fitsOf_27 : decode cX10_fitsOf 27 = .ok (.aload_n 0, 1) := by decide +kernel
theorem dX10_fitsOf_28 : decode cX10_fitsOf 28 = .ok (.getfield 9, 3) := by decide +kernel
theorem dX10_fitsOf_31 : decode cX10_fitsOf 31 = .ok (.sipush 312, 3) := by decide +kernel
theorem dX10_fitsOf_34 : decode cX10_fitsOf 34 = .ok (.iload_n 3, 1) := by decide +kernel
theorem dX10_fitsOf_35 : decode cX10_fitsOf 35 = .ok (.iadd, 1) := by decide +kernel
theorem dX10_fitsOf_36 : decode cX10_fitsOf 36 = .ok (.iaload, 1) := by decide +kernel
theorem dX10_fitsOf_37 : decode cX10_fitsOf 37 = .ok (.invokevirtual 221, 3) := by decide +kernel
theorem dX10_fitsOf_40 : decode cX10_fitsOf 40 = .ok (.aload_n 0, 1) := by decide +kernel
theorem dX10_fitsOf_41 : decode cX10_fitsOf 41 = .ok (.getfield 9, 3) := by decide +kernel
theorem dX10_fitsOf_44 : decode cX10_fitsOf 44 = .ok (.sipush 324, 3) := by decide +kernel
theorem dX10_fitsOf_47 : decode cX10_fitsOf 47 = .ok (.iload_n 3, 1) := by decide +kernel
theorem dX10_fitsOf_48 : decode cX10_fitsOf 48 = .ok (.iadd, 1) := by decide +kernel
theorem dX10_fitsOf_49 : decode cX10_fitsOf 49 = .ok (.iaload, 1) := by decide +kernel
theorem dX10_fitsOf_50 : decode cX10_fitsOf 50 = .ok (.if_icmp .ne 9, 3) := by decide +kernel
theorem dX10_fitsOf_53 : decode cX10_fitsOf 53 = .ok (.iconst 1, 1) := by decide +kernel
theorem dX10_fitsOf_54 : decode cX10_fitsOf 54 = .ok (.iload_n 3, 1) := by decide +kernel
theorem dX10_fitsOf_55 : decode cX10_fitsOf 55 = .ok (.ishl, 1) := by decide +kernel
theorem dX10_fitsOf_56 : decode cX10_fitsOf 56 = .ok (.goto 4, 3) := by decide +kernel
theorem dX10_fitsOf_59 : decode cX10_fitsOf 59 = .ok (.iconst 0, 1) := by decide +kernel
theorem dX10_fitsOf_60 : decode cX10_fitsOf 60 = .ok (.ior, 1) := by decide +kernel
theorem dX10_fitsOf_61 : decode cX10_fitsOf 61 = .ok (.istore_n 2, 1) := by decide +kernel
theorem dX10_fitsOf_62 : decode cX10_fitsOf 62 = .ok (.iinc 3 1, 3) := by decide +kernel
theorem dX10_fitsOf_65 : decode cX10_fitsOf 65 = .ok (.goto (-61), 3) := by decide +kernel
theorem dX10_fitsOf_68 : decode cX10_fitsOf 68 = .ok (.iload_n 2, 1) := by decide +kernel
theorem dX10_fitsOf_69 : decode cX10_fitsOf 69 = .ok (.ireturn, 1) := by decide +kernel
theorem dX10_count1_0 : decode cX10_count1 0 = .ok (.iconst 0, 1) := by decide +kernel
theorem dX10_count1_1 : decode cX10_count1 1 = .ok (.istore_n 1, 1) := by decide +kernel
theorem dX10_count1_2 : decode cX10_count1 2 = .ok (.iconst 0, 1) := by decide +kernel
theorem dX10_count1_3 : decode cX10_count1 3 = .ok (.istore_n 2, 1) := by decide +kernel
theorem dX10_count1_4 : decode cX10_count1 4 = .ok (.iload_n 2, 1) := by decide +kernel
theorem dX10_count1_5 : decode cX10_count1 5 = .ok (.bipush 12, 2) := by decide +kernel
theorem dX10_count1_7 : decode cX10_count1 7 = .ok (.if_icmp .ge 17, 3) := by decide +kernel
theorem dX10_count1_10 : decode cX10_count1 10 = .ok (.iload_n 1, 1) := by decide +kernel
theorem dX10_count1_11 : decode cX10_count1 11 = .ok (.iload_n 0, 1) := by decide +kernel
theorem dX10_count1_12 : decode cX10_count1 12 = .ok (.iload_n 2, 1) := by decide +kernel
theorem dX10_count1_13 : decode cX10_count1 13 = .ok (.ishr, 1) := by decide +kernel
theorem dX10_count1_14 : decode cX10_count1 14 = .ok (.iconst 1, 1) := by decide +kernel
theorem dX10_count1_15 : decode cX10_count1 15 = .ok (.iand, 1) := by decide +kernel
theorem dX10_count1_16 : decode cX10_count1 16 = .ok (.iadd, 1) := by decide +kernel
theorem dX10_count1_17 : decode cX10_count1 17 = .ok (.istore_n 1, 1) := by decide +kernel
theorem dX10_count1_18 : decode cX10_count1 18 = .ok (.iinc 2 1, 3) := by decide +kernel
theorem dX10_count1_21 : decode cX10_count1 21 = .ok (.goto (-17), 3) := by decide +kernel
theorem dX10_count1_24 : decode cX10_count1 24 = .ok (.iload_n 1, 1) := by decide +kernel
theorem dX10_count1_25 : decode cX10_count1 25 = .ok (.ireturn, 1) := by decide +kernel
theorem dX10_fits_0 : decode cX10_fits 0 = .ok (.aload_n 0, 1) := by decide +kernel
theorem dX10_fits_1 : decode cX10_fits 1 = .ok (.iload_n 1, 1) := by decide +kernel
theorem dX10_fits_2 : decode cX10_fits 2 = .ok (.invokevirtual 202, 3) := by decide +kernel
theorem dX10_fits_5 : decode cX10_fits 5 = .ok (.ifCond .ne 5, 3) := by decide +kernel
theorem dX10_fits_8 : decode cX10_fits 8 = .ok (.iconst (-1), 1) := by decide +kernel
theorem dX10_fits_9 : decode cX10_fits 9 = .ok (.ireturn, 1) := by decide +kernel
theorem dX10_fits_10 : decode cX10_fits 10 = .ok (.aload_n 0, 1) := by decide +kernel
theorem dX10_fits_11 : decode cX10_fits 11 = .ok (.invokevirtual 205, 3) := by decide +kernel
theorem dX10_fits_14 : decode cX10_fits 14 = .ok (.aload_n 0, 1) := by decide +kernel
theorem dX10_fits_15 : decode cX10_fits 15 = .ok (.iconst 1, 1) := by decide +kernel
theorem dX10_fits_16 : decode cX10_fits 16 = .ok (.iload_n 1, 1) := by decide +kernel
theorem dX10_fits_17 : decode cX10_fits 17 = .ok (.ishl, 1) := by decide +kernel
theorem dX10_fits_18 : decode cX10_fits 18 = .ok (.invokevirtual 230, 3) := by decide +kernel
theorem dX10_fits_21 : decode cX10_fits 21 = .ok (.ireturn, 1) := by decide +kernel
theorem dX10_divisor_0 : decode cX10_divisor 0 = .ok (.iload_n 0, 1) := by decide +kernel
theorem dX10_divisor_1 : decode cX10_divisor 1 = .ok (.istore_n 2, 1) := by decide +kernel
theorem dX10_divisor_2 : decode cX10_divisor 2 = .ok (.iload_n 1, 1) := by decide +kernel
theorem dX10_divisor_3 : decode cX10_divisor 3 = .ok (.istore_n 3, 1) := by decide +kernel
theorem dX10_divisor_4 : decode cX10_divisor 4 = .ok (.iload_n 3, 1) := by decide +kernel
theorem dX10_divisor_5 : decode cX10_divisor 5 = .ok (.ifCond .eq 16, 3) := by decide +kernel
theorem dX10_divisor_8 : decode cX10_divisor 8 = .ok (.iload_n 2, 1) := by decide +kernel
theorem dX10_divisor_9 : decode cX10_divisor 9 = .ok (.iload_n 3, 1) := by decide +kernel
theorem dX10_divisor_10 : decode cX10_divisor 10 = .ok (.irem, 1) := by decide +kernel
theorem dX10_divisor_11 : decode cX10_divisor 11 = .ok (.istore 4, 2) := by decide +kernel
theorem dX10_divisor_13 : decode cX10_divisor 13 = .ok (.iload_n 3, 1) := by decide +kernel
theorem dX10_divisor_14 : decode cX10_divisor 14 = .ok (.istore_n 2, 1) := by decide +kernel
theorem dX10_divisor_15 : decode cX10_divisor 15 = .ok (.iload 4, 2) := by decide +kernel
theorem dX10_divisor_17 : decode cX10_divisor 17 = .ok (.istore_n 3, 1) := by decide +kernel
theorem dX10_divisor_18 : decode cX10_divisor 18 = .ok (.goto (-14), 3) := by decide +kernel
theorem dX10_divisor_21 : decode cX10_divisor 21 = .ok (.iload_n 2, 1) := by decide +kernel
theorem dX10_divisor_22 : decode cX10_divisor 22 = .ok (.ireturn, 1) := by decide +kernel
theorem dX10_odds_0 : decode cX10_odds 0 = .ok (.aload_n 0, 1) := by decide +kernel
theorem dX10_odds_1 : decode cX10_odds 1 = .ok (.iload_n 1, 1) := by decide +kernel
theorem dX10_odds_2 : decode cX10_odds 2 = .ok (.invokevirtual 202, 3) := by decide +kernel
theorem dX10_odds_5 : decode cX10_odds 5 = .ok (.ifCond .eq 12, 3) := by decide +kernel
theorem dX10_odds_8 : decode cX10_odds 8 = .ok (.iload_n 2, 1) := by decide +kernel
theorem dX10_odds_9 : decode cX10_odds 9 = .ok (.iconst 0, 1) := by decide +kernel
theorem dX10_odds_10 : decode cX10_odds 10 = .ok (.iconst 1, 1) := by decide +kernel
theorem dX10_odds_11 : decode cX10_odds 11 = .ok (.invokestatic 44, 3) := by decide +kernel
theorem dX10_odds_14 : decode cX10_odds 14 = .ok (.ifCond .ne 5, 3) := by decide +kernel
theorem dX10_odds_17 : decode cX10_odds 17 = .ok (.iconst (-1), 1) := by decide +kernel
theorem dX10_odds_18 : decode cX10_odds 18 = .ok (.ireturn, 1) := by decide +kernel
theorem dX10_odds_19 : decode cX10_odds 19 = .ok (.aload_n 0, 1) := by decide +kernel
theorem dX10_odds_20 : decode cX10_odds 20 = .ok (.invokevirtual 205, 3) := by decide +kernel
theorem dX10_odds_23 : decode cX10_odds 23 = .ok (.iconst 0, 1) := by decide +kernel
theorem dX10_odds_24 : decode cX10_odds 24 = .ok (.istore_n 3, 1) := by decide +kernel
theorem dX10_odds_25 : decode cX10_odds 25 = .ok (.iconst 0, 1) := by decide +kernel
theorem dX10_odds_26 : decode cX10_odds 26 = .ok (.istore 4, 2) := by decide +kernel
theorem dX10_odds_28 : decode cX10_odds 28 = .ok (.iload 4, 2) := by decide +kernel
theorem dX10_odds_30 : decode cX10_odds 30 = .ok (.aload_n 0, 1) := by decide +kernel
theorem dX10_odds_31 : decode cX10_odds 31 = .ok (.getfield 9, 3) := by decide +kernel
theorem dX10_odds_34 : decode cX10_odds 34 = .ok (.iconst 0, 1) := by decide +kernel
theorem dX10_odds_35 : decode cX10_odds 35 = .ok (.iaload, 1) := by decide +kernel
theorem dX10_odds_36 : decode cX10_odds 36 = .ok (.if_icmp .ge 23, 3) := by decide +kernel
theorem dX10_odds_39 : decode cX10_odds 39 = .ok (.iload_n 3, 1) := by decide +kernel
theorem dX10_odds_40 : decode cX10_odds 40 = .ok (.aload_n 0, 1) := by decide +kernel
theorem dX10_odds_41 : decode cX10_odds 41 = .ok (.iconst 1, 1) := by decide +kernel
theorem dX10_odds_42 : decode cX10_odds 42 = .ok (.iload 4, 2) := by decide +kernel
theorem dX10_odds_44 : decode cX10_odds 44 = .ok (.ishl, 1) := by decide +kernel
theorem dX10_odds_45 : decode cX10_odds 45 = .ok (.invokevirtual 230, 3) := by decide +kernel
theorem dX10_odds_48 : decode cX10_odds 48 = .ok (.invokestatic 233, 3) := by decide +kernel
theorem dX10_odds_51 : decode cX10_odds 51 = .ok (.iadd, 1) := by decide +kernel
theorem dX10_odds_52 : decode cX10_odds 52 = .ok (.istore_n 3, 1) := by decide +kernel
theorem dX10_odds_53 : decode cX10_odds 53 = .ok (.iinc 4 1, 3) := by decide +kernel
theorem dX10_odds_56 : decode cX10_odds 56 = .ok (.goto (-28), 3) := by decide +kernel
theorem dX10_odds_59 : decode cX10_odds 59 = .ok (.iload_n 3, 1) := by decide +kernel
theorem dX10_odds_60 : decode cX10_odds 60 = .ok (.ifCond .ne 5, 3) := by decide +kernel
theorem dX10_odds_63 : decode cX10_odds 63 = .ok (.iload_n 2, 1) := by decide +kernel
theorem dX10_odds_64 : decode cX10_odds 64 = .ok (.ireturn, 1) := by decide +kernel
theorem dX10_odds_65 : decode cX10_odds 65 = .ok (.aload_n 0, 1) := by decide +kernel
theorem dX10_odds_66 : decode cX10_odds 66 = .ok (.iconst 1, 1) := by decide +kernel
theorem dX10_odds_67 : decode cX10_odds 67 = .ok (.iload_n 1, 1) := by decide +kernel
theorem dX10_odds_68 : decode cX10_odds 68 = .ok (.ishl, 1) := by decide +kernel
theorem dX10_odds_69 : decode cX10_odds 69 = .ok (.invokevirtual 230, 3) := by decide +kernel
theorem dX10_odds_72 : decode cX10_odds 72 = .ok (.invokestatic 233, 3) := by decide +kernel
theorem dX10_odds_75 : decode cX10_odds 75 = .ok (.istore 4, 2) := by decide +kernel
theorem dX10_odds_77 : decode cX10_odds 77 = .ok (.iload_n 2, 1) := by decide +kernel
theorem dX10_odds_78 : decode cX10_odds 78 = .ok (.ifCond .ne 8, 3) := by decide +kernel
theorem dX10_odds_81 : decode cX10_odds 81 = .ok (.iload 4, 2) := by decide +kernel
theorem dX10_odds_83 : decode cX10_odds 83 = .ok (.goto 4, 3) := by decide +kernel
theorem dX10_odds_86 : decode cX10_odds 86 = .ok (.iload_n 3, 1) := by decide +kernel
theorem dX10_odds_87 : decode cX10_odds 87 = .ok (.iload 4, 2) := by decide +kernel
theorem dX10_odds_89 : decode cX10_odds 89 = .ok (.iload_n 3, 1) := by decide +kernel
theorem dX10_odds_90 : decode cX10_odds 90 = .ok (.invokestatic 236, 3) := by decide +kernel
theorem dX10_odds_93 : decode cX10_odds 93 = .ok (.idiv, 1) := by decide +kernel
theorem dX10_odds_94 : decode cX10_odds 94 = .ok (.ireturn, 1) := by decide +kernel
theorem dX10_mostFitting_0 : decode cX10_mostFitting 0 = .ok (.bipush (-5), 2) := by decide +kernel
theorem dX10_mostFitting_2 : decode cX10_mostFitting 2 = .ok (.istore_n 1, 1) := by decide +kernel
theorem dX10_mostFitting_3 : decode cX10_mostFitting 3 = .ok (.iconst (-1), 1) := by decide +kernel
theorem dX10_mostFitting_4 : decode cX10_mostFitting 4 = .ok (.istore_n 2, 1) := by decide +kernel
theorem dX10_mostFitting_5 : decode cX10_mostFitting 5 = .ok (.iconst 0, 1) := by decide +kernel
theorem dX10_mostFitting_6 : decode cX10_mostFitting 6 = .ok (.istore_n 3, 1) := by decide +kernel
theorem dX10_mostFitting_7 : decode cX10_mostFitting 7 = .ok (.iload_n 3, 1) := by decide +kernel
theorem dX10_mostFitting_8 : decode cX10_mostFitting 8 = .ok (.aload_n 0, 1) := by decide +kernel
theorem dX10_mostFitting_9 : decode cX10_mostFitting 9 = .ok (.getfield 9, 3) := by decide +kernel
theorem dX10_mostFitting_12 : decode cX10_mostFitting 12 = .ok (.iconst 0, 1) := by decide +kernel
theorem dX10_mostFitting_13 : decode cX10_mostFitting 13 = .ok (.iaload, 1) := by decide +kernel
theorem dX10_mostFitting_14 : decode cX10_mostFitting 14 = .ok (.if_icmp .ge 46, 3) := by decide +kernel
theorem dX10_mostFitting_17 : decode cX10_mostFitting 17 = .ok (.aload_n 0, 1) := by decide +kernel
theorem dX10_mostFitting_18 : decode cX10_mostFitting 18 = .ok (.iconst 1, 1) := by decide +kernel
theorem dX10_mostFitting_19 : decode cX10_mostFitting 19 = .ok (.iload_n 3, 1) := by decide +kernel
theorem dX10_mostFitting_20 : decode cX10_mostFitting 20 = .ok (.ishl, 1) := by decide +kernel
theorem dX10_mostFitting_21 : decode cX10_mostFitting 21 = .ok (.invokevirtual 230, 3) := by decide +kernel
theorem dX10_mostFitting_24 : decode cX10_mostFitting 24 = .ok (.invokestatic 233, 3) := by decide +kernel
theorem dX10_mostFitting_27 : decode cX10_mostFitting 27 = .ok (.istore 4, 2) := by decide +kernel
theorem dX10_mostFitting_29 : decode cX10_mostFitting 29 = .ok (.iload 4, 2) := by decide +kernel
theorem dX10_mostFitting_31 : decode cX10_mostFitting 31 = .ok (.iload_n 2, 1) := by decide +kernel
theorem dX10_mostFitting_32 : decode cX10_mostFitting 32 = .ok (.if_icmp .le 7, 3) := by decide +kernel
theorem dX10_mostFitting_35 : decode cX10_mostFitting 35 = .ok (.iload_n 3, 1) := by decide +kernel
theorem dX10_mostFitting_36 : decode cX10_mostFitting 36 = .ok (.goto 4, 3) := by decide +kernel
theorem dX10_mostFitting_39 : decode cX10_mostFitting 39 = .ok (.iload_n 1, 1) := by decide +kernel
theorem dX10_mostFitting_40 : decode cX10_mostFitting 40 = .ok (.istore_n 1, 1) := by decide +kernel
theorem dX10_mostFitting_41 : decode cX10_mostFitting 41 = .ok (.iload 4, 2) := by decide +kernel
theorem dX10_mostFitting_43 : decode cX10_mostFitting 43 = .ok (.iload_n 2, 1) := by decide +kernel
theorem dX10_mostFitting_44 : decode cX10_mostFitting 44 = .ok (.if_icmp .le 8, 3) := by decide +kernel
theorem dX10_mostFitting_47 : decode cX10_mostFitting 47 = .ok (.iload 4, 2) := by decide +kernel
theorem dX10_mostFitting_49 : decode cX10_mostFitting 49 = .ok (.goto 4, 3) := by decide +kernel
theorem dX10_mostFitting_52 : decode cX10_mostFitting 52 = .ok (.iload_n 2, 1) := by decide +kernel
theorem dX10_mostFitting_53 : decode cX10_mostFitting 53 = .ok (.istore_n 2, 1) := by decide +kernel
theorem dX10_mostFitting_54 : decode cX10_mostFitting 54 = .ok (.iinc 3 1, 3) := by decide +kernel
theorem dX10_mostFitting_57 : decode cX10_mostFitting 57 = .ok (.goto (-50), 3) := by decide +kernel
theorem dX10_mostFitting_60 : decode cX10_mostFitting 60 = .ok (.iload_n 1, 1) := by decide +kernel
theorem dX10_mostFitting_61 : decode cX10_mostFitting 61 = .ok (.ireturn, 1) := by decide +kernel
theorem dX10_allFitting_0 : decode cX10_allFitting 0 = .ok (.bipush (-5), 2) := by decide +kernel
theorem dX10_allFitting_2 : decode cX10_allFitting 2 = .ok (.istore_n 1, 1) := by decide +kernel
theorem dX10_allFitting_3 : decode cX10_allFitting 3 = .ok (.iconst 0, 1) := by decide +kernel
theorem dX10_allFitting_4 : decode cX10_allFitting 4 = .ok (.istore_n 2, 1) := by decide +kernel
theorem dX10_allFitting_5 : decode cX10_allFitting 5 = .ok (.iload_n 2, 1) := by decide +kernel
theorem dX10_allFitting_6 : decode cX10_allFitting 6 = .ok (.iconst 1, 1) := by decide +kernel
theorem dX10_allFitting_7 : decode cX10_allFitting 7 = .ok (.aload_n 0, 1) := by decide +kernel
theorem dX10_allFitting_8 : decode cX10_allFitting 8 = .ok (.getfield 9, 3) := by decide +kernel
theorem dX10_allFitting_11 : decode cX10_allFitting 11 = .ok (.iconst 0, 1) := by decide +kernel
theorem dX10_allFitting_12 : decode cX10_allFitting 12 = .ok (.iaload, 1) := by decide +kernel
theorem dX10_allFitting_13 : decode cX10_allFitting 13 = .ok (.ishl, 1) := by decide +kernel
theorem dX10_allFitting_14 : decode cX10_allFitting 14 = .ok (.if_icmp .ge 46, 3) := by decide +kernel
theorem dX10_allFitting_17 : decode cX10_allFitting 17 = .ok (.iload_n 1, 1) := by decide +kernel
theorem dX10_allFitting_18 : decode cX10_allFitting 18 = .ok (.bipush (-5), 2) := by decide +kernel
theorem dX10_allFitting_20 : decode cX10_allFitting 20 = .ok (.if_icmp .eq 14, 3) := by decide +kernel
theorem dX10_allFitting_23 : decode cX10_allFitting 23 = .ok (.iload_n 2, 1) := by decide +kernel
theorem dX10_allFitting_24 : decode cX10_allFitting 24 = .ok (.invokestatic 233, 3) := by decide +kernel
theorem dX10_allFitting_27 : decode cX10_allFitting 27 = .ok (.iload_n 1, 1) := by decide +kernel
theorem dX10_allFitting_28 : decode cX10_allFitting 28 = .ok (.invokestatic 233, 3) := by decide +kernel
theorem dX10_allFitting_31 : decode cX10_allFitting 31 = .ok (.if_icmp .ge 23, 3) := by decide +kernel
theorem dX10_allFitting_34 : decode cX10_allFitting 34 = .ok (.aload_n 0, 1) := by decide +kernel
theorem dX10_allFitting_35 : decode cX10_allFitting 35 = .ok (.iload_n 2, 1) := by decide +kernel
theorem dX10_allFitting_36 : decode cX10_allFitting 36 = .ok (.invokevirtual 230, 3) := by decide +kernel
theorem dX10_allFitting_39 : decode cX10_allFitting 39 = .ok (.iconst 1, 1) := by decide +kernel
theorem dX10_allFitting_40 : decode cX10_allFitting 40 = .ok (.aload_n 0, 1) := by decide +kernel
theorem dX10_allFitting_41 : decode cX10_allFitting 41 = .ok (.getfield 9, 3) := by decide +kernel
theorem dX10_allFitting_44 : decode cX10_allFitting 44 = .ok (.iconst 2, 1) := by decide +kernel
theorem dX10_allFitting_45 : decode cX10_allFitting 45 = .ok (.iaload, 1) := by decide +kernel
theorem dX10_allFitting_46 : decode cX10_allFitting 46 = .ok (.ishl, 1) := by decide +kernel
theorem dX10_allFitting_47 : decode cX10_allFitting 47 = .ok (.iconst 1, 1) := by decide +kernel
theorem dX10_allFitting_48 : decode cX10_allFitting 48 = .ok (.isub, 1) := by decide +kernel
theorem dX10_allFitting_49 : decode cX10_allFitting 49 = .ok (.if_icmp .ne 5, 3) := by decide +kernel
theorem dX10_allFitting_52 : decode cX10_allFitting 52 = .ok (.iload_n 2, 1) := by decide +kernel
theorem dX10_allFitting_53 : decode cX10_allFitting 53 = .ok (.istore_n 1, 1) := by decide +kernel
theorem dX10_allFitting_54 : decode cX10_allFitting 54 = .ok (.iinc 2 1, 3) := by decide +kernel
theorem dX10_allFitting_57 : decode cX10_allFitting 57 = .ok (.goto (-52), 3) := by decide +kernel
theorem dX10_allFitting_60 : decode cX10_allFitting 60 = .ok (.iload_n 1, 1) := by decide +kernel
theorem dX10_allFitting_61 : decode cX10_allFitting 61 = .ok (.ireturn, 1) := by decide +kernel
theorem dX10_harmOf_0 : decode cX10_harmOf 0 = .ok (.iconst 0, 1) := by decide +kernel
theorem dX10_harmOf_1 : decode cX10_harmOf 1 = .ok (.istore_n 2, 1) := by decide +kernel
theorem dX10_harmOf_2 : decode cX10_harmOf 2 = .ok (.iconst 0, 1) := by decide +kernel
theorem dX10_harmOf_3 : decode cX10_harmOf 3 = .ok (.istore_n 3, 1) := by decide +kernel
theorem dX10_harmOf_4 : decode cX10_harmOf 4 = .ok (.iload_n 3, 1) := by decide +kernel
theorem dX10_harmOf_5 : decode cX10_harmOf 5 = .ok (.bipush 40, 2) := by decide +kernel
theorem dX10_harmOf_7 : decode cX10_harmOf 7 = .ok (.if_icmp .ge 31, 3) := by decide +kernel
theorem dX10_harmOf_10 : decode cX10_harmOf 10 = .ok (.aload_n 0, 1) := by decide +kernel
theorem dX10_harmOf_11 : decode cX10_harmOf 11 = .ok (.iload_n 1, 1) := by decide +kernel
theorem dX10_harmOf_12 : decode cX10_harmOf 12 = .ok (.invokevirtual 208, 3) := by decide +kernel
theorem dX10_harmOf_15 : decode cX10_harmOf 15 = .ok (.ifCond .ne 23, 3) := by decide +kernel
theorem dX10_harmOf_18 : decode cX10_harmOf 18 = .ok (.iload_n 2, 1) := by decide +kernel
theorem dX10_harmOf_19 : decode cX10_harmOf 19 = .ok (.aload_n 0, 1) := by decide +kernel
theorem dX10_harmOf_20 : decode cX10_harmOf 20 = .ok (.getfield 28, 3) := by decide +kernel
theorem dX10_harmOf_23 : decode cX10_harmOf 23 = .ok (.bipush 40, 2) := by decide +kernel
theorem dX10_harmOf_25 : decode cX10_harmOf 25 = .ok (.iload_n 1, 1) := by decide +kernel
theorem dX10_harmOf_26 : decode cX10_harmOf 26 = .ok (.imul, 1) := by decide +kernel
theorem dX10_harmOf_27 : decode cX10_harmOf 27 = .ok (.iload_n 3, 1) := by decide +kernel
theorem dX10_harmOf_28 : decode cX10_harmOf 28 = .ok (.iadd, 1) := by decide +kernel
theorem dX10_harmOf_29 : decode cX10_harmOf 29 = .ok (.iaload, 1) := by decide +kernel
theorem dX10_harmOf_30 : decode cX10_harmOf 30 = .ok (.iadd, 1) := by decide +kernel
theorem dX10_harmOf_31 : decode cX10_harmOf 31 = .ok (.istore_n 2, 1) := by decide +kernel
theorem dX10_harmOf_32 : decode cX10_harmOf 32 = .ok (.iinc 3 1, 3) := by decide +kernel
theorem dX10_harmOf_35 : decode cX10_harmOf 35 = .ok (.goto (-31), 3) := by decide +kernel
theorem dX10_harmOf_38 : decode cX10_harmOf 38 = .ok (.iload_n 2, 1) := by decide +kernel
theorem dX10_harmOf_39 : decode cX10_harmOf 39 = .ok (.aload_n 0, 1) := by decide +kernel
theorem dX10_harmOf_40 : decode cX10_harmOf 40 = .ok (.getfield 9, 3) := by decide +kernel
theorem dX10_harmOf_43 : decode cX10_harmOf 43 = .ok (.sipush 280, 3) := by decide +kernel
theorem dX10_harmOf_46 : decode cX10_harmOf 46 = .ok (.iload_n 1, 1) := by decide +kernel
theorem dX10_harmOf_47 : decode cX10_harmOf 47 = .ok (.iadd, 1) := by decide +kernel
theorem dX10_harmOf_48 : decode cX10_harmOf 48 = .ok (.iaload, 1) := by decide +kernel
theorem dX10_harmOf_49 : decode cX10_harmOf 49 = .ok (.imul, 1) := by decide +kernel
theorem dX10_harmOf_50 : decode cX10_harmOf 50 = .ok (.ireturn, 1) := by decide +kernel
theorem dX10_worst_0 : decode cX10_worst 0 = .ok (.bipush (-5), 2) := by decide +kernel
theorem dX10_worst_2 : decode cX10_worst 2 = .ok (.istore_n 1, 1) := by decide +kernel
theorem dX10_worst_3 : decode cX10_worst 3 = .ok (.iconst (-1), 1) := by decide +kernel
theorem dX10_worst_4 : decode cX10_worst 4 = .ok (.istore_n 2, 1) := by decide +kernel
theorem dX10_worst_5 : decode cX10_worst 5 = .ok (.iconst 0, 1) := by decide +kernel
theorem dX10_worst_6 : decode cX10_worst 6 = .ok (.istore_n 3, 1) := by decide +kernel
theorem dX10_worst_7 : decode cX10_worst 7 = .ok (.iload_n 3, 1) := by decide +kernel
theorem dX10_worst_8 : decode cX10_worst 8 = .ok (.aload_n 0, 1) := by decide +kernel
theorem dX10_worst_9 : decode cX10_worst 9 = .ok (.getfield 9, 3) := by decide +kernel
theorem dX10_worst_12 : decode cX10_worst 12 = .ok (.iconst 0, 1) := by decide +kernel
theorem dX10_worst_13 : decode cX10_worst 13 = .ok (.iaload, 1) := by decide +kernel
theorem dX10_worst_14 : decode cX10_worst 14 = .ok (.if_icmp .ge 41, 3) := by decide +kernel
theorem dX10_worst_17 : decode cX10_worst 17 = .ok (.aload_n 0, 1) := by decide +kernel
theorem dX10_worst_18 : decode cX10_worst 18 = .ok (.iload_n 3, 1) := by decide +kernel
theorem dX10_worst_19 : decode cX10_worst 19 = .ok (.invokevirtual 239, 3) := by decide +kernel
theorem dX10_worst_22 : decode cX10_worst 22 = .ok (.istore 4, 2) := by decide +kernel
theorem dX10_worst_24 : decode cX10_worst 24 = .ok (.iload 4, 2) := by decide +kernel
theorem dX10_worst_26 : decode cX10_worst 26 = .ok (.iload_n 2, 1) := by decide +kernel
theorem dX10_worst_27 : decode cX10_worst 27 = .ok (.if_icmp .le 7, 3) := by decide +kernel
theorem dX10_worst_30 : decode cX10_worst 30 = .ok (.iload_n 3, 1) := by decide +kernel
theorem dX10_worst_31 : decode cX10_worst 31 = .ok (.goto 4, 3) := by decide +kernel
theorem dX10_worst_34 : decode cX10_worst 34 = .ok (.iload_n 1, 1) := by decide +kernel
theorem dX10_worst_35 : decode cX10_worst 35 = .ok (.istore_n 1, 1) := by decide +kernel
theorem dX10_worst_36 : decode cX10_worst 36 = .ok (.iload 4, 2) := by decide +kernel
theorem dX10_worst_38 : decode cX10_worst 38 = .ok (.iload_n 2, 1) := by decide +kernel
theorem dX10_worst_39 : decode cX10_worst 39 = .ok (.if_icmp .le 8, 3) := by decide +kernel
theorem dX10_worst_42 : decode cX10_worst 42 = .ok (.iload 4, 2) := by decide +kernel
theorem dX10_worst_44 : decode cX10_worst 44 = .ok (.goto 4, 3) := by decide +kernel
theorem dX10_worst_47 : decode cX10_worst 47 = .ok (.iload_n 2, 1) := by decide +kernel
theorem dX10_worst_48 : decode cX10_worst 48 = .ok (.istore_n 2, 1) := by decide +kernel
theorem dX10_worst_49 : decode cX10_worst 49 = .ok (.iinc 3 1, 3) := by decide +kernel
theorem dX10_worst_52 : decode cX10_worst 52 = .ok (.goto (-45), 3) := by decide +kernel
theorem dX10_worst_55 : decode cX10_worst 55 = .ok (.iload_n 1, 1) := by decide +kernel
theorem dX10_worst_56 : decode cX10_worst 56 = .ok (.ireturn, 1) := by decide +kernel
theorem dX10_which_0 : decode cX10_which 0 = .ok (.iload_n 1, 1) := by decide +kernel
theorem dX10_which_1 : decode cX10_which 1 = .ok (.iconst 0, 1) := by decide +kernel
theorem dX10_which_2 : decode cX10_which 2 = .ok (.iconst 2, 1) := by decide +kernel
theorem dX10_which_3 : decode cX10_which 3 = .ok (.invokestatic 44, 3) := by decide +kernel
theorem dX10_which_6 : decode cX10_which 6 = .ok (.ifCond .ne 5, 3) := by decide +kernel
theorem dX10_which_9 : decode cX10_which 9 = .ok (.iconst (-1), 1) := by decide +kernel
theorem dX10_which_10 : decode cX10_which 10 = .ok (.ireturn, 1) := by decide +kernel
theorem dX10_which_11 : decode cX10_which 11 = .ok (.aload_n 0, 1) := by decide +kernel
theorem dX10_which_12 : decode cX10_which 12 = .ok (.invokevirtual 205, 3) := by decide +kernel
theorem dX10_which_15 : decode cX10_which 15 = .ok (.iload_n 1, 1) := by decide +kernel
theorem dX10_which_16 : decode cX10_which 16 = .ok (.ifCond .ne 10, 3) := by decide +kernel
theorem dX10_which_19 : decode cX10_which 19 = .ok (.aload_n 0, 1) := by decide +kernel
theorem dX10_which_20 : decode cX10_which 20 = .ok (.invokevirtual 242, 3) := by decide +kernel
theorem dX10_which_23 : decode cX10_which 23 = .ok (.goto 19, 3) := by decide +kernel
theorem dX10_which_26 : decode cX10_which 26 = .ok (.iload_n 1, 1) := by decide +kernel
theorem dX10_which_27 : decode cX10_which 27 = .ok (.iconst 1, 1) := by decide +kernel
theorem dX10_which_28 : decode cX10_which 28 = .ok (.if_icmp .ne 10, 3) := by decide +kernel
theorem dX10_which_31 : decode cX10_which 31 = .ok (.aload_n 0, 1) := by decide +kernel
theorem dX10_which_32 : decode cX10_which 32 = .ok (.invokevirtual 245, 3) := by decide +kernel
theorem dX10_which_35 : decode cX10_which 35 = .ok (.goto 7, 3) := by decide +kernel
theorem dX10_which_38 : decode cX10_which 38 = .ok (.aload_n 0, 1) := by decide +kernel
theorem dX10_which_39 : decode cX10_which 39 = .ok (.invokevirtual 248, 3) := by decide +kernel
theorem dX10_which_42 : decode cX10_which 42 = .ok (.ireturn, 1) := by decide +kernel
theorem dX10_next_0 : decode cX10_next 0 = .ok (.aload_n 0, 1) := by decide +kernel
theorem dX10_next_1 : decode cX10_next 1 = .ok (.invokevirtual 205, 3) := by decide +kernel
theorem dX10_next_4 : decode cX10_next 4 = .ok (.bipush (-5), 2) := by decide +kernel
theorem dX10_next_6 : decode cX10_next 6 = .ok (.istore_n 1, 1) := by decide +kernel
theorem dX10_next_7 : decode cX10_next 7 = .ok (.iconst 0, 1) := by decide +kernel
theorem dX10_next_8 : decode cX10_next 8 = .ok (.istore_n 2, 1) := by decide +kernel
theorem dX10_next_9 : decode cX10_next 9 = .ok (.iconst 0, 1) := by decide +kernel
theorem dX10_next_10 : decode cX10_next 10 = .ok (.istore_n 3, 1) := by decide +kernel
theorem dX10_next_11 : decode cX10_next 11 = .ok (.iload_n 3, 1) := by decide +kernel
theorem dX10_next_12 : decode cX10_next 12 = .ok (.bipush 10, 2) := by decide +kernel
theorem dX10_next_14 : decode cX10_next 14 = .ok (.if_icmp .ge 209, 3) := by decide +kernel
theorem dX10_next_17 : decode cX10_next 17 = .ok (.aload_n 0, 1) := by decide +kernel
theorem dX10_next_18 : decode cX10_next 18 = .ok (.getfield 9, 3) := by decide +kernel
theorem dX10_next_21 : decode cX10_next 21 = .ok (.iconst 0, 1) := by decide +kernel
theorem dX10_next_22 : decode cX10_next 22 = .ok (.iaload, 1) := by decide +kernel
theorem dX10_next_23 : decode cX10_next 23 = .ok (.ifCond .le 200, 3) := by decide +kernel
theorem dX10_next_26 : decode cX10_next 26 = .ok (.iconst 0, 1) := by decide +kernel
theorem dX10_next_27 : decode cX10_next 27 = .ok (.istore 4, 2) := by decide +kernel
theorem dX10_next_29 : decode cX10_next 29 = .ok (.iload 4, 2) := by decide +kernel
theorem dX10_next_31 : decode cX10_next 31 = .ok (.bipush 40, 2) := by decide +kernel
theorem dX10_next_33 : decode cX10_next 33 = .ok (.if_icmp .ge 184, 3) := by decide +kernel
theorem dX10_next_36 : decode cX10_next 36 = .ok (.iconst 0, 1) := by decide +kernel
theorem dX10_next_37 : decode cX10_next 37 = .ok (.istore 5, 2) := by decide +kernel
theorem dX10_next_39 : decode cX10_next 39 = .ok (.iload 5, 2) := by decide +kernel
theorem dX10_next_41 : decode cX10_next 41 = .ok (.aload_n 0, 1) := by decide +kernel
theorem dX10_next_42 : decode cX10_next 42 = .ok (.getfield 9, 3) := by decide +kernel
theorem dX10_next_45 : decode cX10_next 45 = .ok (.iconst 0, 1) := by decide +kernel
theorem dX10_next_46 : decode cX10_next 46 = .ok (.iaload, 1) := by decide +kernel
theorem dX10_next_47 : decode cX10_next 47 = .ok (.if_icmp .ge 27, 3) := by decide +kernel
theorem dX10_next_50 : decode cX10_next 50 = .ok (.aload_n 0, 1) := by decide +kernel
theorem dX10_next_51 : decode cX10_next 51 = .ok (.getfield 31, 3) := by decide +kernel
theorem dX10_next_54 : decode cX10_next 54 = .ok (.iload 5, 2) := by decide +kernel
theorem dX10_next_56 : decode cX10_next 56 = .ok (.aload_n 0, 1) := by decide +kernel
theorem dX10_next_57 : decode cX10_next 57 = .ok (.iconst 1, 1) := by decide +kernel
theorem dX10_next_58 : decode cX10_next 58 = .ok (.iload 5, 2) := by decide +kernel
end
section
-- decode rows, as printed (NAMES.whole)
theorem dX10_next_60 : decode cX10_next 60 = .ok (.ishl, 1) := by decide +kernel
theorem dX10_next_61 : decode cX10_next 61 = .ok (.iload_n 3, 1) := by decide +kernel
theorem dX10_next_62 : decode cX10_next 62 = .ok (.iload 4, 2) := by decide +kernel
theorem dX10_next_64 : decode cX10_next 64 = .ok (.invokevirtual 221, 3) := by decide +kernel
theorem dX10_next_67 : decode cX10_next 67 = .ok (.iastore, 1) := by decide +kernel
theorem dX10_next_68 : decode cX10_next 68 = .ok (.iinc 5 1, 3) := by decide +kernel
theorem dX10_next_71 : decode cX10_next 71 = .ok (.goto (-32), 3) := by decide +kernel
theorem dX10_next_74 : decode cX10_next 74 = .ok (.iconst 0, 1) := by decide +kernel
theorem dX10_next_75 : decode cX10_next 75 = .ok (.istore 5, 2) := by decide +kernel
theorem dX10_next_77 : decode cX10_next 77 = .ok (.iconst 0, 1) := by decide +kernel
theorem dX10_next_78 : decode cX10_next 78 = .ok (.istore 6, 2) := by decide +kernel
theorem dX10_next_80 : decode cX10_next 80 = .ok (.iload 6, 2) := by decide +kernel
theorem dX10_next_82 : decode cX10_next 82 = .ok (.aload_n 0, 1) := by decide +kernel
theorem dX10_next_83 : decode cX10_next 83 = .ok (.getfield 9, 3) := by decide +kernel
theorem dX10_next_86 : decode cX10_next 86 = .ok (.iconst 0, 1) := by decide +kernel
theorem dX10_next_87 : decode cX10_next 87 = .ok (.iaload, 1) := by decide +kernel
theorem dX10_next_88 : decode cX10_next 88 = .ok (.if_icmp .ge 75, 3) := by decide +kernel
theorem dX10_next_91 : decode cX10_next 91 = .ok (.iconst 0, 1) := by decide +kernel
theorem dX10_next_92 : decode cX10_next 92 = .ok (.istore 7, 2) := by decide +kernel
theorem dX10_next_94 : decode cX10_next 94 = .ok (.iconst 0, 1) := by decide +kernel
theorem dX10_next_95 : decode cX10_next 95 = .ok (.istore 8, 2) := by decide +kernel
theorem dX10_next_97 : decode cX10_next 97 = .ok (.iload 8, 2) := by decide +kernel
theorem dX10_next_99 : decode cX10_next 99 = .ok (.aload_n 0, 1) := by decide +kernel
theorem dX10_next_100 : decode cX10_next 100 = .ok (.getfield 9, 3) := by decide +kernel
theorem dX10_next_103 : decode cX10_next 103 = .ok (.iconst 0, 1) := by decide +kernel
theorem dX10_next_104 : decode cX10_next 104 = .ok (.iaload, 1) := by decide +kernel
theorem dX10_next_105 : decode cX10_next 105 = .ok (.if_icmp .ge 36, 3) := by decide +kernel
theorem dX10_next_108 : decode cX10_next 108 = .ok (.iload 7, 2) := by decide +kernel
theorem dX10_next_110 : decode cX10_next 110 = .ok (.aload_n 0, 1) := by decide +kernel
theorem dX10_next_111 : decode cX10_next 111 = .ok (.getfield 31, 3) := by decide +kernel
theorem dX10_next_114 : decode cX10_next 114 = .ok (.iload 8, 2) := by decide +kernel
theorem dX10_next_116 : decode cX10_next 116 = .ok (.iaload, 1) := by decide +kernel
theorem dX10_next_117 : decode cX10_next 117 = .ok (.aload_n 0, 1) := by decide +kernel
theorem dX10_next_118 : decode cX10_next 118 = .ok (.getfield 31, 3) := by decide +kernel
theorem dX10_next_121 : decode cX10_next 121 = .ok (.iload 6, 2) := by decide +kernel
theorem dX10_next_123 : decode cX10_next 123 = .ok (.iaload, 1) := by decide +kernel
theorem dX10_next_124 : decode cX10_next 124 = .ok (.if_icmp .ne 7, 3) := by decide +kernel
theorem dX10_next_127 : decode cX10_next 127 = .ok (.iconst 1, 1) := by decide +kernel
theorem dX10_next_128 : decode cX10_next 128 = .ok (.goto 4, 3) := by decide +kernel
theorem dX10_next_131 : decode cX10_next 131 = .ok (.iconst 0, 1) := by decide +kernel
theorem dX10_next_132 : decode cX10_next 132 = .ok (.iadd, 1) := by decide +kernel
theorem dX10_next_133 : decode cX10_next 133 = .ok (.istore 7, 2) := by decide +kernel
theorem dX10_next_135 : decode cX10_next 135 = .ok (.iinc 8 1, 3) := by decide +kernel
theorem dX10_next_138 : decode cX10_next 138 = .ok (.goto (-41), 3) := by decide +kernel
theorem dX10_next_141 : decode cX10_next 141 = .ok (.iload 7, 2) := by decide +kernel
theorem dX10_next_143 : decode cX10_next 143 = .ok (.iload 5, 2) := by decide +kernel
theorem dX10_next_145 : decode cX10_next 145 = .ok (.if_icmp .le 8, 3) := by decide +kernel
theorem dX10_next_148 : decode cX10_next 148 = .ok (.iload 7, 2) := by decide +kernel
theorem dX10_next_150 : decode cX10_next 150 = .ok (.goto 5, 3) := by decide +kernel
theorem dX10_next_153 : decode cX10_next 153 = .ok (.iload 5, 2) := by decide +kernel
theorem dX10_next_155 : decode cX10_next 155 = .ok (.istore 5, 2) := by decide +kernel
theorem dX10_next_157 : decode cX10_next 157 = .ok (.iinc 6 1, 3) := by decide +kernel
theorem dX10_next_160 : decode cX10_next 160 = .ok (.goto (-80), 3) := by decide +kernel
theorem dX10_next_163 : decode cX10_next 163 = .ok (.iload_n 1, 1) := by decide +kernel
theorem dX10_next_164 : decode cX10_next 164 = .ok (.bipush (-5), 2) := by decide +kernel
theorem dX10_next_166 : decode cX10_next 166 = .ok (.if_icmp .eq 9, 3) := by decide +kernel
theorem dX10_next_169 : decode cX10_next 169 = .ok (.iload 5, 2) := by decide +kernel
theorem dX10_next_171 : decode cX10_next 171 = .ok (.iload_n 2, 1) := by decide +kernel
theorem dX10_next_172 : decode cX10_next 172 = .ok (.if_icmp .ge 7, 3) := by decide +kernel
theorem dX10_next_175 : decode cX10_next 175 = .ok (.iconst 1, 1) := by decide +kernel
theorem dX10_next_176 : decode cX10_next 176 = .ok (.goto 4, 3) := by decide +kernel
theorem dX10_next_179 : decode cX10_next 179 = .ok (.iconst 0, 1) := by decide +kernel
theorem dX10_next_180 : decode cX10_next 180 = .ok (.istore 6, 2) := by decide +kernel
theorem dX10_next_182 : decode cX10_next 182 = .ok (.iload 6, 2) := by decide +kernel
theorem dX10_next_184 : decode cX10_next 184 = .ok (.ifCond .eq 13, 3) := by decide +kernel
theorem dX10_next_187 : decode cX10_next 187 = .ok (.bipush 100, 2) := by decide +kernel
theorem dX10_next_189 : decode cX10_next 189 = .ok (.iload_n 3, 1) := by decide +kernel
theorem dX10_next_190 : decode cX10_next 190 = .ok (.imul, 1) := by decide +kernel
theorem dX10_next_191 : decode cX10_next 191 = .ok (.iload 4, 2) := by decide +kernel
theorem dX10_next_193 : decode cX10_next 193 = .ok (.iadd, 1) := by decide +kernel
theorem dX10_next_194 : decode cX10_next 194 = .ok (.goto 4, 3) := by decide +kernel
theorem dX10_next_197 : decode cX10_next 197 = .ok (.iload_n 1, 1) := by decide +kernel
theorem dX10_next_198 : decode cX10_next 198 = .ok (.istore_n 1, 1) := by decide +kernel
theorem dX10_next_199 : decode cX10_next 199 = .ok (.iload 6, 2) := by decide +kernel
theorem dX10_next_201 : decode cX10_next 201 = .ok (.ifCond .eq 8, 3) := by decide +kernel
theorem dX10_next_204 : decode cX10_next 204 = .ok (.iload 5, 2) := by decide +kernel
theorem dX10_next_206 : decode cX10_next 206 = .ok (.goto 4, 3) := by decide +kernel
theorem dX10_next_209 : decode cX10_next 209 = .ok (.iload_n 2, 1) := by decide +kernel
theorem dX10_next_210 : decode cX10_next 210 = .ok (.istore_n 2, 1) := by decide +kernel
theorem dX10_next_211 : decode cX10_next 211 = .ok (.iinc 4 1, 3) := by decide +kernel
theorem dX10_next_214 : decode cX10_next 214 = .ok (.goto (-185), 3) := by decide +kernel
theorem dX10_next_217 : decode cX10_next 217 = .ok (.iinc 3 1, 3) := by decide +kernel
theorem dX10_next_220 : decode cX10_next 220 = .ok (.goto (-209), 3) := by decide +kernel
theorem dX10_next_223 : decode cX10_next 223 = .ok (.iload_n 1, 1) := by decide +kernel
theorem dX10_next_224 : decode cX10_next 224 = .ok (.ireturn, 1) := by decide +kernel
theorem dX10_least_0 : decode cX10_least 0 = .ok (.iload_n 1, 1) := by decide +kernel
theorem dX10_least_1 : decode cX10_least 1 = .ok (.invokestatic 199, 3) := by decide +kernel
theorem dX10_least_4 : decode cX10_least 4 = .ok (.ifCond .ne 5, 3) := by decide +kernel
theorem dX10_least_7 : decode cX10_least 7 = .ok (.iconst (-1), 1) := by decide +kernel
theorem dX10_least_8 : decode cX10_least 8 = .ok (.ireturn, 1) := by decide +kernel
theorem dX10_least_9 : decode cX10_least 9 = .ok (.iload_n 2, 1) := by decide +kernel
theorem dX10_least_10 : decode cX10_least 10 = .ok (.iconst 0, 1) := by decide +kernel
theorem dX10_least_11 : decode cX10_least 11 = .ok (.bipush 99, 2) := by decide +kernel
theorem dX10_least_13 : decode cX10_least 13 = .ok (.invokestatic 44, 3) := by decide +kernel
theorem dX10_least_16 : decode cX10_least 16 = .ok (.ifCond .ne 6, 3) := by decide +kernel
theorem dX10_least_19 : decode cX10_least 19 = .ok (.bipush (-2), 2) := by decide +kernel
theorem dX10_least_21 : decode cX10_least 21 = .ok (.ireturn, 1) := by decide +kernel
theorem dX10_least_22 : decode cX10_least 22 = .ok (.aload_n 0, 1) := by decide +kernel
theorem dX10_least_23 : decode cX10_least 23 = .ok (.invokevirtual 205, 3) := by decide +kernel
theorem dX10_least_26 : decode cX10_least 26 = .ok (.aload_n 0, 1) := by decide +kernel
theorem dX10_least_27 : decode cX10_least 27 = .ok (.invokevirtual 224, 3) := by decide +kernel
theorem dX10_least_30 : decode cX10_least 30 = .ok (.istore_n 3, 1) := by decide +kernel
theorem dX10_least_31 : decode cX10_least 31 = .ok (.iconst 0, 1) := by decide +kernel
theorem dX10_least_32 : decode cX10_least 32 = .ok (.istore 4, 2) := by decide +kernel
theorem dX10_least_34 : decode cX10_least 34 = .ok (.iload 4, 2) := by decide +kernel
theorem dX10_least_36 : decode cX10_least 36 = .ok (.aload_n 0, 1) := by decide +kernel
theorem dX10_least_37 : decode cX10_least 37 = .ok (.getfield 9, 3) := by decide +kernel
theorem dX10_least_40 : decode cX10_least 40 = .ok (.iconst 0, 1) := by decide +kernel
theorem dX10_least_41 : decode cX10_least 41 = .ok (.iaload, 1) := by decide +kernel
theorem dX10_least_42 : decode cX10_least 42 = .ok (.if_icmp .ge 27, 3) := by decide +kernel
theorem dX10_least_45 : decode cX10_least 45 = .ok (.aload_n 0, 1) := by decide +kernel
theorem dX10_least_46 : decode cX10_least 46 = .ok (.getfield 34, 3) := by decide +kernel
theorem dX10_least_49 : decode cX10_least 49 = .ok (.iload 4, 2) := by decide +kernel
theorem dX10_least_51 : decode cX10_least 51 = .ok (.aload_n 0, 1) := by decide +kernel
theorem dX10_least_52 : decode cX10_least 52 = .ok (.iload_n 3, 1) := by decide +kernel
theorem dX10_least_53 : decode cX10_least 53 = .ok (.iconst 1, 1) := by decide +kernel
theorem dX10_least_54 : decode cX10_least 54 = .ok (.iload 4, 2) := by decide +kernel
theorem dX10_least_56 : decode cX10_least 56 = .ok (.ishl, 1) := by decide +kernel
theorem dX10_least_57 : decode cX10_least 57 = .ok (.iand, 1) := by decide +kernel
theorem dX10_least_58 : decode cX10_least 58 = .ok (.iload_n 1, 1) := by decide +kernel
theorem dX10_least_59 : decode cX10_least 59 = .ok (.invokevirtual 227, 3) := by decide +kernel
theorem dX10_least_62 : decode cX10_least 62 = .ok (.iastore, 1) := by decide +kernel
theorem dX10_least_63 : decode cX10_least 63 = .ok (.iinc 4 1, 3) := by decide +kernel
theorem dX10_least_66 : decode cX10_least 66 = .ok (.goto (-32), 3) := by decide +kernel
theorem dX10_least_69 : decode cX10_least 69 = .ok (.bipush (-5), 2) := by decide +kernel
theorem dX10_least_71 : decode cX10_least 71 = .ok (.istore 4, 2) := by decide +kernel
theorem dX10_least_73 : decode cX10_least 73 = .ok (.iconst 0, 1) := by decide +kernel
theorem dX10_least_74 : decode cX10_least 74 = .ok (.istore 5, 2) := by decide +kernel
theorem dX10_least_76 : decode cX10_least 76 = .ok (.iload 5, 2) := by decide +kernel
theorem dX10_least_78 : decode cX10_least 78 = .ok (.iconst 1, 1) := by decide +kernel
theorem dX10_least_79 : decode cX10_least 79 = .ok (.aload_n 0, 1) := by decide +kernel
theorem dX10_least_80 : decode cX10_least 80 = .ok (.getfield 9, 3) := by decide +kernel
theorem dX10_least_83 : decode cX10_least 83 = .ok (.iconst 0, 1) := by decide +kernel
theorem dX10_least_84 : decode cX10_least 84 = .ok (.iaload, 1) := by decide +kernel
theorem dX10_least_85 : decode cX10_least 85 = .ok (.ishl, 1) := by decide +kernel
theorem dX10_least_86 : decode cX10_least 86 = .ok (.if_icmp .ge 114, 3) := by decide +kernel
theorem dX10_least_89 : decode cX10_least 89 = .ok (.iconst 0, 1) := by decide +kernel
theorem dX10_least_90 : decode cX10_least 90 = .ok (.istore 6, 2) := by decide +kernel
theorem dX10_least_92 : decode cX10_least 92 = .ok (.iconst 0, 1) := by decide +kernel
theorem dX10_least_93 : decode cX10_least 93 = .ok (.istore 7, 2) := by decide +kernel
theorem dX10_least_95 : decode cX10_least 95 = .ok (.iload 7, 2) := by decide +kernel
theorem dX10_least_97 : decode cX10_least 97 = .ok (.aload_n 0, 1) := by decide +kernel
theorem dX10_least_98 : decode cX10_least 98 = .ok (.getfield 9, 3) := by decide +kernel
theorem dX10_least_101 : decode cX10_least 101 = .ok (.iconst 0, 1) := by decide +kernel
theorem dX10_least_102 : decode cX10_least 102 = .ok (.iaload, 1) := by decide +kernel
theorem dX10_least_103 : decode cX10_least 103 = .ok (.if_icmp .ge 35, 3) := by decide +kernel
theorem dX10_least_106 : decode cX10_least 106 = .ok (.iload 6, 2) := by decide +kernel
theorem dX10_least_108 : decode cX10_least 108 = .ok (.iload 5, 2) := by decide +kernel
theorem dX10_least_110 : decode cX10_least 110 = .ok (.iload 7, 2) := by decide +kernel
theorem dX10_least_112 : decode cX10_least 112 = .ok (.ishr, 1) := by decide +kernel
theorem dX10_least_113 : decode cX10_least 113 = .ok (.iconst 1, 1) := by decide +kernel
theorem dX10_least_114 : decode cX10_least 114 = .ok (.iand, 1) := by decide +kernel
theorem dX10_least_115 : decode cX10_least 115 = .ok (.ifCond .ne 13, 3) := by decide +kernel
theorem dX10_least_118 : decode cX10_least 118 = .ok (.aload_n 0, 1) := by decide +kernel
theorem dX10_least_119 : decode cX10_least 119 = .ok (.getfield 34, 3) := by decide +kernel
theorem dX10_least_122 : decode cX10_least 122 = .ok (.iload 7, 2) := by decide +kernel
theorem dX10_least_124 : decode cX10_least 124 = .ok (.iaload, 1) := by decide +kernel
theorem dX10_least_125 : decode cX10_least 125 = .ok (.goto 4, 3) := by decide +kernel
theorem dX10_least_128 : decode cX10_least 128 = .ok (.iconst 0, 1) := by decide +kernel
theorem dX10_least_129 : decode cX10_least 129 = .ok (.iadd, 1) := by decide +kernel
theorem dX10_least_130 : decode cX10_least 130 = .ok (.istore 6, 2) := by decide +kernel
theorem dX10_least_132 : decode cX10_least 132 = .ok (.iinc 7 1, 3) := by decide +kernel
theorem dX10_least_135 : decode cX10_least 135 = .ok (.goto (-40), 3) := by decide +kernel
theorem dX10_least_138 : decode cX10_least 138 = .ok (.iload 5, 2) := by decide +kernel
theorem dX10_least_140 : decode cX10_least 140 = .ok (.iload_n 3, 1) := by decide +kernel
theorem dX10_least_141 : decode cX10_least 141 = .ok (.iconst (-1), 1) := by decide +kernel
theorem dX10_least_142 : decode cX10_least 142 = .ok (.ixor, 1) := by decide +kernel
theorem dX10_least_143 : decode cX10_least 143 = .ok (.iand, 1) := by decide +kernel
theorem dX10_least_144 : decode cX10_least 144 = .ok (.ifCond .ne 13, 3) := by decide +kernel
theorem dX10_least_147 : decode cX10_least 147 = .ok (.iload 6, 2) := by decide +kernel
theorem dX10_least_149 : decode cX10_least 149 = .ok (.iload_n 2, 1) := by decide +kernel
theorem dX10_least_150 : decode cX10_least 150 = .ok (.if_icmp .gt 7, 3) := by decide +kernel
theorem dX10_least_153 : decode cX10_least 153 = .ok (.iconst 1, 1) := by decide +kernel
theorem dX10_least_154 : decode cX10_least 154 = .ok (.goto 4, 3) := by decide +kernel
theorem dX10_least_157 : decode cX10_least 157 = .ok (.iconst 0, 1) := by decide +kernel
theorem dX10_least_158 : decode cX10_least 158 = .ok (.istore 7, 2) := by decide +kernel
theorem dX10_least_160 : decode cX10_least 160 = .ok (.iload 7, 2) := by decide +kernel
theorem dX10_least_162 : decode cX10_least 162 = .ok (.ifCond .eq 28, 3) := by decide +kernel
theorem dX10_least_165 : decode cX10_least 165 = .ok (.iload 4, 2) := by decide +kernel
theorem dX10_least_167 : decode cX10_least 167 = .ok (.bipush (-5), 2) := by decide +kernel
theorem dX10_least_169 : decode cX10_least 169 = .ok (.if_icmp .eq 16, 3) := by decide +kernel
theorem dX10_least_172 : decode cX10_least 172 = .ok (.iload 5, 2) := by decide +kernel
theorem dX10_least_174 : decode cX10_least 174 = .ok (.invokestatic 233, 3) := by decide +kernel
theorem dX10_least_177 : decode cX10_least 177 = .ok (.iload 4, 2) := by decide +kernel
theorem dX10_least_179 : decode cX10_least 179 = .ok (.invokestatic 233, 3) := by decide +kernel
theorem dX10_least_182 : decode cX10_least 182 = .ok (.if_icmp .ge 8, 3) := by decide +kernel
theorem dX10_least_185 : decode cX10_least 185 = .ok (.iload 5, 2) := by decide +kernel
theorem dX10_least_187 : decode cX10_least 187 = .ok (.goto 5, 3) := by decide +kernel
theorem dX10_least_190 : decode cX10_least 190 = .ok (.iload 4, 2) := by decide +kernel
theorem dX10_least_192 : decode cX10_least 192 = .ok (.istore 4, 2) := by decide +kernel
theorem dX10_least_194 : decode cX10_least 194 = .ok (.iinc 5 1, 3) := by decide +kernel
theorem dX10_least_197 : decode cX10_least 197 = .ok (.goto (-121), 3) := by decide +kernel
theorem dX10_least_200 : decode cX10_least 200 = .ok (.iload 4, 2) := by decide +kernel
theorem dX10_least_202 : decode cX10_least 202 = .ok (.ireturn, 1) := by decide +kernel
theorem dX10_eased_0 : decode cX10_eased 0 = .ok (.iload_n 1, 1) := by decide +kernel
theorem dX10_eased_1 : decode cX10_eased 1 = .ok (.invokestatic 199, 3) := by decide +kernel
theorem dX10_eased_4 : decode cX10_eased 4 = .ok (.ifCond .ne 5, 3) := by decide +kernel
theorem dX10_eased_7 : decode cX10_eased 7 = .ok (.iconst (-1), 1) := by decide +kernel
theorem dX10_eased_8 : decode cX10_eased 8 = .ok (.ireturn, 1) := by decide +kernel
theorem dX10_eased_9 : decode cX10_eased 9 = .ok (.iload_n 2, 1) := by decide +kernel
theorem dX10_eased_10 : decode cX10_eased 10 = .ok (.iconst 0, 1) := by decide +kernel
theorem dX10_eased_11 : decode cX10_eased 11 = .ok (.bipush 40, 2) := by decide +kernel
theorem dX10_eased_13 : decode cX10_eased 13 = .ok (.invokestatic 44, 3) := by decide +kernel
theorem dX10_eased_16 : decode cX10_eased 16 = .ok (.ifCond .ne 6, 3) := by decide +kernel
theorem dX10_eased_19 : decode cX10_eased 19 = .ok (.bipush (-2), 2) := by decide +kernel
theorem dX10_eased_21 : decode cX10_eased 21 = .ok (.ireturn, 1) := by decide +kernel
theorem dX10_eased_22 : decode cX10_eased 22 = .ok (.aload_n 0, 1) := by decide +kernel
theorem dX10_eased_23 : decode cX10_eased 23 = .ok (.invokevirtual 205, 3) := by decide +kernel
theorem dX10_eased_26 : decode cX10_eased 26 = .ok (.aload_n 0, 1) := by decide +kernel
theorem dX10_eased_27 : decode cX10_eased 27 = .ok (.aload_n 0, 1) := by decide +kernel
theorem dX10_eased_28 : decode cX10_eased 28 = .ok (.invokevirtual 224, 3) := by decide +kernel
theorem dX10_eased_31 : decode cX10_eased 31 = .ok (.iload_n 1, 1) := by decide +kernel
theorem dX10_eased_32 : decode cX10_eased 32 = .ok (.invokevirtual 227, 3) := by decide +kernel
theorem dX10_eased_35 : decode cX10_eased 35 = .ok (.istore_n 3, 1) := by decide +kernel
theorem dX10_eased_36 : decode cX10_eased 36 = .ok (.aload_n 0, 1) := by decide +kernel
theorem dX10_eased_37 : decode cX10_eased 37 = .ok (.iload_n 2, 1) := by decide +kernel
theorem dX10_eased_38 : decode cX10_eased 38 = .ok (.putfield 214, 3) := by decide +kernel
theorem dX10_eased_41 : decode cX10_eased 41 = .ok (.aload_n 0, 1) := by decide +kernel
theorem dX10_eased_42 : decode cX10_eased 42 = .ok (.aload_n 0, 1) := by decide +kernel
theorem dX10_eased_43 : decode cX10_eased 43 = .ok (.invokevirtual 224, 3) := by decide +kernel
theorem dX10_eased_46 : decode cX10_eased 46 = .ok (.iload_n 1, 1) := by decide +kernel
theorem dX10_eased_47 : decode cX10_eased 47 = .ok (.invokevirtual 227, 3) := by decide +kernel
theorem dX10_eased_50 : decode cX10_eased 50 = .ok (.istore 4, 2) := by decide +kernel
theorem dX10_eased_52 : decode cX10_eased 52 = .ok (.aload_n 0, 1) := by decide +kernel
theorem dX10_eased_53 : decode cX10_eased 53 = .ok (.iconst 0, 1) := by decide +kernel
theorem dX10_eased_54 : decode cX10_eased 54 = .ok (.putfield 214, 3) := by decide +kernel
theorem dX10_eased_57 : decode cX10_eased 57 = .ok (.iload_n 3, 1) := by decide +kernel
theorem dX10_eased_58 : decode cX10_eased 58 = .ok (.iload 4, 2) := by decide +kernel
theorem dX10_eased_60 : decode cX10_eased 60 = .ok (.isub, 1) := by decide +kernel
theorem dX10_eased_61 : decode cX10_eased 61 = .ok (.ireturn, 1) := by decide +kernel
theorem dX10_parted_0 : decode cX10_parted 0 = .ok (.aload_n 0, 1) := by decide +kernel
theorem dX10_parted_1 : decode cX10_parted 1 = .ok (.iload_n 1, 1) := by decide +kernel
theorem dX10_parted_2 : decode cX10_parted 2 = .ok (.invokevirtual 202, 3) := by decide +kernel
theorem dX10_parted_5 : decode cX10_parted 5 = .ok (.ifCond .eq 16, 3) := by decide +kernel
theorem dX10_parted_8 : decode cX10_parted 8 = .ok (.aload_n 0, 1) := by decide +kernel
theorem dX10_parted_9 : decode cX10_parted 9 = .ok (.iload_n 2, 1) := by decide +kernel
theorem dX10_parted_10 : decode cX10_parted 10 = .ok (.invokevirtual 202, 3) := by decide +kernel
theorem dX10_parted_13 : decode cX10_parted 13 = .ok (.ifCond .eq 8, 3) := by decide +kernel
theorem dX10_parted_16 : decode cX10_parted 16 = .ok (.iload_n 1, 1) := by decide +kernel
theorem dX10_parted_17 : decode cX10_parted 17 = .ok (.iload_n 2, 1) := by decide +kernel
theorem dX10_parted_18 : decode cX10_parted 18 = .ok (.if_icmp .ne 7, 3) := by decide +kernel
theorem dX10_parted_21 : decode cX10_parted 21 = .ok (.ldc2_w 251, 3) := by decide +kernel
theorem dX10_parted_24 : decode cX10_parted 24 = .ok (.lreturn, 1) := by decide +kernel
theorem dX10_parted_25 : decode cX10_parted 25 = .ok (.aload_n 0, 1) := by decide +kernel
theorem dX10_parted_26 : decode cX10_parted 26 = .ok (.invokevirtual 205, 3) := by decide +kernel
theorem dX10_parted_29 : decode cX10_parted 29 = .ok (.lconst 0, 1) := by decide +kernel
theorem dX10_parted_30 : decode cX10_parted 30 = .ok (.lstore_n 3, 1) := by decide +kernel
theorem dX10_parted_31 : decode cX10_parted 31 = .ok (.iconst 0, 1) := by decide +kernel
theorem dX10_parted_32 : decode cX10_parted 32 = .ok (.istore 5, 2) := by decide +kernel
theorem dX10_parted_34 : decode cX10_parted 34 = .ok (.iload 5, 2) := by decide +kernel
theorem dX10_parted_36 : decode cX10_parted 36 = .ok (.bipush 40, 2) := by decide +kernel
theorem dX10_parted_38 : decode cX10_parted 38 = .ok (.if_icmp .ge 63, 3) := by decide +kernel
theorem dX10_parted_41 : decode cX10_parted 41 = .ok (.lload_n 3, 1) := by decide +kernel
theorem dX10_parted_42 : decode cX10_parted 42 = .ok (.aload_n 0, 1) := by decide +kernel
theorem dX10_parted_43 : decode cX10_parted 43 = .ok (.getfield 28, 3) := by decide +kernel
theorem dX10_parted_46 : decode cX10_parted 46 = .ok (.bipush 40, 2) := by decide +kernel
theorem dX10_parted_48 : decode cX10_parted 48 = .ok (.iload_n 1, 1) := by decide +kernel
theorem dX10_parted_49 : decode cX10_parted 49 = .ok (.imul, 1) := by decide +kernel
theorem dX10_parted_50 : decode cX10_parted 50 = .ok (.iload 5, 2) := by decide +kernel
theorem dX10_parted_52 : decode cX10_parted 52 = .ok (.iadd, 1) := by decide +kernel
theorem dX10_parted_53 : decode cX10_parted 53 = .ok (.iaload, 1) := by decide +kernel
theorem dX10_parted_54 : decode cX10_parted 54 = .ok (.ifCond .le 7, 3) := by decide +kernel
theorem dX10_parted_57 : decode cX10_parted 57 = .ok (.iconst 1, 1) := by decide +kernel
theorem dX10_parted_58 : decode cX10_parted 58 = .ok (.goto 4, 3) := by decide +kernel
theorem dX10_parted_61 : decode cX10_parted 61 = .ok (.iconst 0, 1) := by decide +kernel
theorem dX10_parted_62 : decode cX10_parted 62 = .ok (.aload_n 0, 1) := by decide +kernel
theorem dX10_parted_63 : decode cX10_parted 63 = .ok (.getfield 28, 3) := by decide +kernel
theorem dX10_parted_66 : decode cX10_parted 66 = .ok (.bipush 40, 2) := by decide +kernel
theorem dX10_parted_68 : decode cX10_parted 68 = .ok (.iload_n 2, 1) := by decide +kernel
theorem dX10_parted_69 : decode cX10_parted 69 = .ok (.imul, 1) := by decide +kernel
theorem dX10_parted_70 : decode cX10_parted 70 = .ok (.iload 5, 2) := by decide +kernel
theorem dX10_parted_72 : decode cX10_parted 72 = .ok (.iadd, 1) := by decide +kernel
theorem dX10_parted_73 : decode cX10_parted 73 = .ok (.iaload, 1) := by decide +kernel
theorem dX10_parted_74 : decode cX10_parted 74 = .ok (.ifCond .le 7, 3) := by decide +kernel
theorem dX10_parted_77 : decode cX10_parted 77 = .ok (.iconst 1, 1) := by decide +kernel
theorem dX10_parted_78 : decode cX10_parted 78 = .ok (.goto 4, 3) := by decide +kernel
theorem dX10_parted_81 : decode cX10_parted 81 = .ok (.iconst 0, 1) := by decide +kernel
theorem dX10_parted_82 : decode cX10_parted 82 = .ok (.if_icmp .eq 10, 3) := by decide +kernel
theorem dX10_parted_85 : decode cX10_parted 85 = .ok (.lconst 1, 1) := by decide +kernel
theorem dX10_parted_86 : decode cX10_parted 86 = .ok (.iload 5, 2) := by decide +kernel
theorem dX10_parted_88 : decode cX10_parted 88 = .ok (.lshl, 1) := by decide +kernel
theorem dX10_parted_89 : decode cX10_parted 89 = .ok (.goto 4, 3) := by decide +kernel
theorem dX10_parted_92 : decode cX10_parted 92 = .ok (.lconst 0, 1) := by decide +kernel
theorem dX10_parted_93 : decode cX10_parted 93 = .ok (.lor, 1) := by decide +kernel
theorem dX10_parted_94 : decode cX10_parted 94 = .ok (.lstore_n 3, 1) := by decide +kernel
theorem dX10_parted_95 : decode cX10_parted 95 = .ok (.iinc 5 1, 3) := by decide +kernel
theorem dX10_parted_98 : decode cX10_parted 98 = .ok (.goto (-64), 3) := by decide +kernel
theorem dX10_parted_101 : decode cX10_parted 101 = .ok (.lload_n 3, 1) := by decide +kernel
theorem dX10_parted_102 : decode cX10_parted 102 = .ok (.lreturn, 1) := by decide +kernel
theorem dX10_quiet_0 : decode cX10_quiet 0 = .ok (.iload_n 1, 1) := by decide +kernel
theorem dX10_quiet_1 : decode cX10_quiet 1 = .ok (.iconst 0, 1) := by decide +kernel
theorem dX10_quiet_2 : decode cX10_quiet 2 = .ok (.iconst 1, 1) := by decide +kernel
theorem dX10_quiet_3 : decode cX10_quiet 3 = .ok (.invokestatic 44, 3) := by decide +kernel
theorem dX10_quiet_6 : decode cX10_quiet 6 = .ok (.ifCond .ne 5, 3) := by decide +kernel
theorem dX10_quiet_9 : decode cX10_quiet 9 = .ok (.iconst (-1), 1) := by decide +kernel
theorem dX10_quiet_10 : decode cX10_quiet 10 = .ok (.ireturn, 1) := by decide +kernel
theorem dX10_quiet_11 : decode cX10_quiet 11 = .ok (.aload_n 0, 1) := by decide +kernel
theorem dX10_quiet_12 : decode cX10_quiet 12 = .ok (.iconst 1, 1) := by decide +kernel
theorem dX10_quiet_13 : decode cX10_quiet 13 = .ok (.putfield 155, 3) := by decide +kernel
theorem dX10_quiet_16 : decode cX10_quiet 16 = .ok (.aload_n 0, 1) := by decide +kernel
theorem dX10_quiet_17 : decode cX10_quiet 17 = .ok (.invokevirtual 205, 3) := by decide +kernel
theorem dX10_quiet_20 : decode cX10_quiet 20 = .ok (.aload_n 0, 1) := by decide +kernel
theorem dX10_quiet_21 : decode cX10_quiet 21 = .ok (.iconst 0, 1) := by decide +kernel
theorem dX10_quiet_22 : decode cX10_quiet 22 = .ok (.putfield 155, 3) := by decide +kernel
theorem dX10_quiet_25 : decode cX10_quiet 25 = .ok (.iconst 0, 1) := by decide +kernel
theorem dX10_quiet_26 : decode cX10_quiet 26 = .ok (.istore_n 2, 1) := by decide +kernel
theorem dX10_quiet_27 : decode cX10_quiet 27 = .ok (.iconst 0, 1) := by decide +kernel
theorem dX10_quiet_28 : decode cX10_quiet 28 = .ok (.istore_n 3, 1) := by decide +kernel
theorem dX10_quiet_29 : decode cX10_quiet 29 = .ok (.iload_n 3, 1) := by decide +kernel
theorem dX10_quiet_30 : decode cX10_quiet 30 = .ok (.aload_n 0, 1) := by decide +kernel
theorem dX10_quiet_31 : decode cX10_quiet 31 = .ok (.getfield 9, 3) := by decide +kernel
theorem dX10_quiet_34 : decode cX10_quiet 34 = .ok (.iconst 0, 1) := by decide +kernel
theorem dX10_quiet_35 : decode cX10_quiet 35 = .ok (.iaload, 1) := by decide +kernel
theorem dX10_quiet_36 : decode cX10_quiet 36 = .ok (.if_icmp .ge 58, 3) := by decide +kernel
theorem dX10_quiet_39 : decode cX10_quiet 39 = .ok (.iconst 0, 1) := by decide +kernel
theorem dX10_quiet_40 : decode cX10_quiet 40 = .ok (.istore 4, 2) := by decide +kernel
theorem dX10_quiet_42 : decode cX10_quiet 42 = .ok (.iload 4, 2) := by decide +kernel
theorem dX10_quiet_44 : decode cX10_quiet 44 = .ok (.bipush 40, 2) := by decide +kernel
theorem dX10_quiet_46 : decode cX10_quiet 46 = .ok (.if_icmp .ge 42, 3) := by decide +kernel
theorem dX10_quiet_49 : decode cX10_quiet 49 = .ok (.iload_n 2, 1) := by decide +kernel
theorem dX10_quiet_50 : decode cX10_quiet 50 = .ok (.aload_n 0, 1) := by decide +kernel
theorem dX10_quiet_51 : decode cX10_quiet 51 = .ok (.iload_n 3, 1) := by decide +kernel
theorem dX10_quiet_52 : decode cX10_quiet 52 = .ok (.invokevirtual 208, 3) := by decide +kernel
theorem dX10_quiet_55 : decode cX10_quiet 55 = .ok (.ifCond .ne 24, 3) := by decide +kernel
theorem dX10_quiet_58 : decode cX10_quiet 58 = .ok (.aload_n 0, 1) := by decide +kernel
theorem dX10_quiet_59 : decode cX10_quiet 59 = .ok (.getfield 28, 3) := by decide +kernel
theorem dX10_quiet_62 : decode cX10_quiet 62 = .ok (.bipush 40, 2) := by decide +kernel
theorem dX10_quiet_64 : decode cX10_quiet 64 = .ok (.iload_n 3, 1) := by decide +kernel
theorem dX10_quiet_65 : decode cX10_quiet 65 = .ok (.imul, 1) := by decide +kernel
theorem dX10_quiet_66 : decode cX10_quiet 66 = .ok (.iload 4, 2) := by decide +kernel
theorem dX10_quiet_68 : decode cX10_quiet 68 = .ok (.iadd, 1) := by decide +kernel
theorem dX10_quiet_69 : decode cX10_quiet 69 = .ok (.iaload, 1) := by decide +kernel
theorem dX10_quiet_70 : decode cX10_quiet 70 = .ok (.ifCond .le 9, 3) := by decide +kernel
theorem dX10_quiet_73 : decode cX10_quiet 73 = .ok (.iconst 1, 1) := by decide +kernel
theorem dX10_quiet_74 : decode cX10_quiet 74 = .ok (.iload_n 3, 1) := by decide +kernel
theorem dX10_quiet_75 : decode cX10_quiet 75 = .ok (.ishl, 1) := by decide +kernel
theorem dX10_quiet_76 : decode cX10_quiet 76 = .ok (.goto 4, 3) := by decide +kernel
theorem dX10_quiet_79 : decode cX10_quiet 79 = .ok (.iconst 0, 1) := by decide +kernel
theorem dX10_quiet_80 : decode cX10_quiet 80 = .ok (.ior, 1) := by decide +kernel
theorem dX10_quiet_81 : decode cX10_quiet 81 = .ok (.istore_n 2, 1) := by decide +kernel
theorem dX10_quiet_82 : decode cX10_quiet 82 = .ok (.iinc 4 1, 3) := by decide +kernel
theorem dX10_quiet_85 : decode cX10_quiet 85 = .ok (.goto (-43), 3) := by decide +kernel
theorem dX10_quiet_88 : decode cX10_quiet 88 = .ok (.iinc 3 1, 3) := by decide +kernel
theorem dX10_quiet_91 : decode cX10_quiet 91 = .ok (.goto (-62), 3) := by decide +kernel
theorem dX10_quiet_94 : decode cX10_quiet 94 = .ok (.iload_n 1, 1) := by decide +kernel
theorem dX10_quiet_95 : decode cX10_quiet 95 = .ok (.iconst 1, 1) := by decide +kernel
theorem dX10_quiet_96 : decode cX10_quiet 96 = .ok (.if_icmp .ne 7, 3) := by decide +kernel
theorem dX10_quiet_99 : decode cX10_quiet 99 = .ok (.iload_n 2, 1) := by decide +kernel
theorem dX10_quiet_100 : decode cX10_quiet 100 = .ok (.goto 12, 3) := by decide +kernel
theorem dX10_quiet_103 : decode cX10_quiet 103 = .ok (.iload_n 2, 1) := by decide +kernel
theorem dX10_quiet_104 : decode cX10_quiet 104 = .ok (.ifCond .ne 7, 3) := by decide +kernel
theorem dX10_quiet_107 : decode cX10_quiet 107 = .ok (.iconst 1, 1) := by decide +kernel
theorem dX10_quiet_108 : decode cX10_quiet 108 = .ok (.goto 4, 3) := by decide +kernel
theorem dX10_quiet_111 : decode cX10_quiet 111 = .ok (.iconst 0, 1) := by decide +kernel
theorem dX10_quiet_112 : decode cX10_quiet 112 = .ok (.ireturn, 1) := by decide +kernel
theorem dX10_moved_0 : decode cX10_moved 0 = .ok (.aload_n 0, 1) := by decide +kernel
theorem dX10_moved_1 : decode cX10_moved 1 = .ok (.iload_n 1, 1) := by decide +kernel
theorem dX10_moved_2 : decode cX10_moved 2 = .ok (.invokevirtual 202, 3) := by decide +kernel
theorem dX10_moved_5 : decode cX10_moved 5 = .ok (.ifCond .eq 10, 3) := by decide +kernel
theorem dX10_moved_8 : decode cX10_moved 8 = .ok (.iload_n 2, 1) := by decide +kernel
theorem dX10_moved_9 : decode cX10_moved 9 = .ok (.invokestatic 199, 3) := by decide +kernel
theorem dX10_moved_12 : decode cX10_moved 12 = .ok (.ifCond .ne 5, 3) := by decide +kernel
theorem dX10_moved_15 : decode cX10_moved 15 = .ok (.iconst (-1), 1) := by decide +kernel
theorem dX10_moved_16 : decode cX10_moved 16 = .ok (.ireturn, 1) := by decide +kernel
theorem dX10_moved_17 : decode cX10_moved 17 = .ok (.aload_n 0, 1) := by decide +kernel
theorem dX10_moved_18 : decode cX10_moved 18 = .ok (.getfield 9, 3) := by decide +kernel
theorem dX10_moved_21 : decode cX10_moved 21 = .ok (.sipush 260, 3) := by decide +kernel
theorem dX10_moved_24 : decode cX10_moved 24 = .ok (.iload_n 1, 1) := by decide +kernel
theorem dX10_moved_25 : decode cX10_moved 25 = .ok (.iadd, 1) := by decide +kernel
theorem dX10_moved_26 : decode cX10_moved 26 = .ok (.iaload, 1) := by decide +kernel
theorem dX10_moved_27 : decode cX10_moved 27 = .ok (.istore_n 3, 1) := by decide +kernel
theorem dX10_moved_28 : decode cX10_moved 28 = .ok (.iconst 0, 1) := by decide +kernel
theorem dX10_moved_29 : decode cX10_moved 29 = .ok (.istore 4, 2) := by decide +kernel
theorem dX10_moved_31 : decode cX10_moved 31 = .ok (.iconst 0, 1) := by decide +kernel
theorem dX10_moved_32 : decode cX10_moved 32 = .ok (.istore 5, 2) := by decide +kernel
theorem dX10_moved_34 : decode cX10_moved 34 = .ok (.iconst 0, 1) := by decide +kernel
theorem dX10_moved_35 : decode cX10_moved 35 = .ok (.istore 6, 2) := by decide +kernel
theorem dX10_moved_37 : decode cX10_moved 37 = .ok (.iload 6, 2) := by decide +kernel
theorem dX10_moved_39 : decode cX10_moved 39 = .ok (.bipush 10, 2) := by decide +kernel
theorem dX10_moved_41 : decode cX10_moved 41 = .ok (.if_icmp .ge 78, 3) := by decide +kernel
theorem dX10_moved_44 : decode cX10_moved 44 = .ok (.aload_n 0, 1) := by decide +kernel
theorem dX10_moved_45 : decode cX10_moved 45 = .ok (.getfield 9, 3) := by decide +kernel
theorem dX10_moved_48 : decode cX10_moved 48 = .ok (.sipush 260, 3) := by decide +kernel
theorem dX10_moved_51 : decode cX10_moved 51 = .ok (.iload_n 1, 1) := by decide +kernel
theorem dX10_moved_52 : decode cX10_moved 52 = .ok (.iadd, 1) := by decide +kernel
theorem dX10_moved_53 : decode cX10_moved 53 = .ok (.iload 6, 2) := by decide +kernel
theorem dX10_moved_55 : decode cX10_moved 55 = .ok (.iastore, 1) := by decide +kernel
theorem dX10_moved_56 : decode cX10_moved 56 = .ok (.aload_n 0, 1) := by decide +kernel
theorem dX10_moved_57 : decode cX10_moved 57 = .ok (.invokevirtual 205, 3) := by decide +kernel
theorem dX10_moved_60 : decode cX10_moved 60 = .ok (.aload_n 0, 1) := by decide +kernel
theorem dX10_moved_61 : decode cX10_moved 61 = .ok (.aload_n 0, 1) := by decide +kernel
theorem dX10_moved_62 : decode cX10_moved 62 = .ok (.invokevirtual 224, 3) := by decide +kernel
theorem dX10_moved_65 : decode cX10_moved 65 = .ok (.iload_n 2, 1) := by decide +kernel
theorem dX10_moved_66 : decode cX10_moved 66 = .ok (.invokevirtual 227, 3) := by decide +kernel
theorem dX10_moved_69 : decode cX10_moved 69 = .ok (.istore 7, 2) := by decide +kernel
theorem dX10_moved_71 : decode cX10_moved 71 = .ok (.iload 6, 2) := by decide +kernel
theorem dX10_moved_73 : decode cX10_moved 73 = .ok (.ifCond .eq 10, 3) := by decide +kernel
theorem dX10_moved_76 : decode cX10_moved 76 = .ok (.iload 7, 2) := by decide +kernel
theorem dX10_moved_78 : decode cX10_moved 78 = .ok (.iload 5, 2) := by decide +kernel
theorem dX10_moved_80 : decode cX10_moved 80 = .ok (.if_icmp .ge 8, 3) := by decide +kernel
theorem dX10_moved_83 : decode cX10_moved 83 = .ok (.iload 6, 2) := by decide +kernel
theorem dX10_moved_85 : decode cX10_moved 85 = .ok (.goto 5, 3) := by decide +kernel
theorem dX10_moved_88 : decode cX10_moved 88 = .ok (.iload 4, 2) := by decide +kernel
theorem dX10_moved_90 : decode cX10_moved 90 = .ok (.istore 4, 2) := by decide +kernel
theorem dX10_moved_92 : decode cX10_moved 92 = .ok (.iload 6, 2) := by decide +kernel
theorem dX10_moved_94 : decode cX10_moved 94 = .ok (.ifCond .eq 10, 3) := by decide +kernel
theorem dX10_moved_97 : decode cX10_moved 97 = .ok (.iload 7, 2) := by decide +kernel
theorem dX10_moved_99 : decode cX10_moved 99 = .ok (.iload 5, 2) := by decide +kernel
theorem dX10_moved_101 : decode cX10_moved 101 = .ok (.if_icmp .ge 8, 3) := by decide +kernel
theorem dX10_moved_104 : decode cX10_moved 104 = .ok (.iload 7, 2) := by decide +kernel
theorem dX10_moved_106 : decode cX10_moved 106 = .ok (.goto 5, 3) := by decide +kernel
theorem dX10_moved_109 : decode cX10_moved 109 = .ok (.iload 5, 2) := by decide +kernel
theorem dX10_moved_111 : decode cX10_moved 111 = .ok (.istore 5, 2) := by decide +kernel
theorem dX10_moved_113 : decode cX10_moved 113 = .ok (.iinc 6 1, 3) := by decide +kernel
theorem dX10_moved_116 : decode cX10_moved 116 = .ok (.goto (-79), 3) := by decide +kernel
theorem dX10_moved_119 : decode cX10_moved 119 = .ok (.aload_n 0, 1) := by decide +kernel
theorem dX10_moved_120 : decode cX10_moved 120 = .ok (.getfield 9, 3) := by decide +kernel
theorem dX10_moved_123 : decode cX10_moved 123 = .ok (.sipush 260, 3) := by decide +kernel
theorem dX10_moved_126 : decode cX10_moved 126 = .ok (.iload_n 1, 1) := by decide +kernel
theorem dX10_moved_127 : decode cX10_moved 127 = .ok (.iadd, 1) := by decide +kernel
theorem dX10_moved_128 : decode cX10_moved 128 = .ok (.iload_n 3, 1) := by decide +kernel
theorem dX10_moved_129 : decode cX10_moved 129 = .ok (.iastore, 1) := by decide +kernel
theorem dX10_moved_130 : decode cX10_moved 130 = .ok (.iload 4, 2) := by decide +kernel
theorem dX10_moved_132 : decode cX10_moved 132 = .ok (.ireturn, 1) := by decide +kernel
theorem dX10_older_0 : decode cX10_older 0 = .ok (.aload_n 0, 1) := by decide +kernel
theorem dX10_older_1 : decode cX10_older 1 = .ok (.invokevirtual 205, 3) := by decide +kernel
theorem dX10_older_4 : decode cX10_older 4 = .ok (.aload_n 0, 1) := by decide +kernel
theorem dX10_older_5 : decode cX10_older 5 = .ok (.aload_n 0, 1) := by decide +kernel
theorem dX10_older_6 : decode cX10_older 6 = .ok (.invokevirtual 224, 3) := by decide +kernel
theorem dX10_older_9 : decode cX10_older 9 = .ok (.invokevirtual 230, 3) := by decide +kernel
theorem dX10_older_12 : decode cX10_older 12 = .ok (.invokestatic 233, 3) := by decide +kernel
theorem dX10_older_15 : decode cX10_older 15 = .ok (.istore_n 1, 1) := by decide +kernel
theorem dX10_older_16 : decode cX10_older 16 = .ok (.iconst 0, 1) := by decide +kernel
theorem dX10_older_17 : decode cX10_older 17 = .ok (.istore_n 2, 1) := by decide +kernel
theorem dX10_older_18 : decode cX10_older 18 = .ok (.iconst 1, 1) := by decide +kernel
theorem dX10_older_19 : decode cX10_older 19 = .ok (.istore_n 3, 1) := by decide +kernel
theorem dX10_older_20 : decode cX10_older 20 = .ok (.iload_n 3, 1) := by decide +kernel
theorem dX10_older_21 : decode cX10_older 21 = .ok (.bipush 40, 2) := by decide +kernel
theorem dX10_older_23 : decode cX10_older 23 = .ok (.if_icmp .gt 39, 3) := by decide +kernel
theorem dX10_older_26 : decode cX10_older 26 = .ok (.aload_n 0, 1) := by decide +kernel
theorem dX10_older_27 : decode cX10_older 27 = .ok (.iload_n 3, 1) := by decide +kernel
theorem dX10_older_28 : decode cX10_older 28 = .ok (.putfield 152, 3) := by decide +kernel
theorem dX10_older_31 : decode cX10_older 31 = .ok (.aload_n 0, 1) := by decide +kernel
theorem dX10_older_32 : decode cX10_older 32 = .ok (.invokevirtual 205, 3) := by decide +kernel
theorem dX10_older_35 : decode cX10_older 35 = .ok (.aload_n 0, 1) := by decide +kernel
theorem dX10_older_36 : decode cX10_older 36 = .ok (.aload_n 0, 1) := by decide +kernel
theorem dX10_older_37 : decode cX10_older 37 = .ok (.invokevirtual 224, 3) := by decide +kernel
theorem dX10_older_40 : decode cX10_older 40 = .ok (.invokevirtual 230, 3) := by decide +kernel
theorem dX10_older_43 : decode cX10_older 43 = .ok (.invokestatic 233, 3) := by decide +kernel
theorem dX10_older_46 : decode cX10_older 46 = .ok (.iload_n 1, 1) := by decide +kernel
theorem dX10_older_47 : decode cX10_older 47 = .ok (.if_icmp .lt 7, 3) := by decide +kernel
theorem dX10_older_50 : decode cX10_older 50 = .ok (.iload_n 3, 1) := by decide +kernel
theorem dX10_older_51 : decode cX10_older 51 = .ok (.goto 4, 3) := by decide +kernel
theorem dX10_older_54 : decode cX10_older 54 = .ok (.iload_n 2, 1) := by decide +kernel
theorem dX10_older_55 : decode cX10_older 55 = .ok (.istore_n 2, 1) := by decide +kernel
theorem dX10_older_56 : decode cX10_older 56 = .ok (.iinc 3 1, 3) := by decide +kernel
theorem dX10_older_59 : decode cX10_older 59 = .ok (.goto (-39), 3) := by decide +kernel
theorem dX10_older_62 : decode cX10_older 62 = .ok (.aload_n 0, 1) := by decide +kernel
theorem dX10_older_63 : decode cX10_older 63 = .ok (.iconst 0, 1) := by decide +kernel
theorem dX10_older_64 : decode cX10_older 64 = .ok (.putfield 152, 3) := by decide +kernel
theorem dX10_older_67 : decode cX10_older 67 = .ok (.iload_n 2, 1) := by decide +kernel
theorem dX10_older_68 : decode cX10_older 68 = .ok (.ireturn, 1) := by decide +kernel
theorem dX10_harm_0 : decode cX10_harm 0 = .ok (.aload_n 0, 1) := by decide +kernel
theorem dX10_harm_1 : decode cX10_harm 1 = .ok (.iload_n 1, 1) := by decide +kernel
theorem dX10_harm_2 : decode cX10_harm 2 = .ok (.invokevirtual 202, 3) := by decide +kernel
theorem dX10_harm_5 : decode cX10_harm 5 = .ok (.ifCond .ne 5, 3) := by decide +kernel
theorem dX10_harm_8 : decode cX10_harm 8 = .ok (.iconst (-1), 1) := by decide +kernel
theorem dX10_harm_9 : decode cX10_harm 9 = .ok (.ireturn, 1) := by decide +kernel
theorem dX10_harm_10 : decode cX10_harm 10 = .ok (.aload_n 0, 1) := by decide +kernel
theorem dX10_harm_11 : decode cX10_harm 11 = .ok (.invokevirtual 205, 3) := by decide +kernel
theorem dX10_harm_14 : decode cX10_harm 14 = .ok (.aload_n 0, 1) := by decide +kernel
theorem dX10_harm_15 : decode cX10_harm 15 = .ok (.iload_n 1, 1) := by decide +kernel
theorem dX10_harm_16 : decode cX10_harm 16 = .ok (.invokevirtual 239, 3) := by decide +kernel
theorem dX10_harm_19 : decode cX10_harm 19 = .ok (.ireturn, 1) := by decide +kernel
theorem dX10_runs_0 : decode cX10_runs 0 = .ok (.aload_n 0, 1) := by decide +kernel
theorem dX10_runs_1 : decode cX10_runs 1 = .ok (.getfield 253, 3) := by decide +kernel
theorem dX10_runs_4 : decode cX10_runs 4 = .ok (.bipush 20, 2) := by decide +kernel
theorem dX10_runs_6 : decode cX10_runs 6 = .ok (.if_icmp .ge 13, 3) := by decide +kernel
theorem dX10_runs_9 : decode cX10_runs 9 = .ok (.aload_n 0, 1) := by decide +kernel
theorem dX10_runs_10 : decode cX10_runs 10 = .ok (.getfield 37, 3) := by decide +kernel
theorem dX10_runs_13 : decode cX10_runs 13 = .ok (.aload_n 0, 1) := by decide +kernel
theorem dX10_runs_14 : decode cX10_runs 14 = .ok (.getfield 253, 3) := by decide +kernel
theorem dX10_runs_17 : decode cX10_runs 17 = .ok (.iload_n 1, 1) := by decide +kernel
theorem dX10_runs_18 : decode cX10_runs 18 = .ok (.iastore, 1) := by decide +kernel
theorem dX10_runs_19 : decode cX10_runs 19 = .ok (.aload_n 0, 1) := by decide +kernel
theorem dX10_runs_20 : decode cX10_runs 20 = .ok (.dup, 1) := by decide +kernel
theorem dX10_runs_21 : decode cX10_runs 21 = .ok (.getfield 253, 3) := by decide +kernel
theorem dX10_runs_24 : decode cX10_runs 24 = .ok (.iconst 1, 1) := by decide +kernel
theorem dX10_runs_25 : decode cX10_runs 25 = .ok (.iadd, 1) := by decide +kernel
theorem dX10_runs_26 : decode cX10_runs 26 = .ok (.putfield 253, 3) := by decide +kernel
theorem dX10_runs_29 : decode cX10_runs 29 = .ok (.return_, 1) := by decide +kernel
theorem dX10_isUnder_0 : decode cX10_isUnder 0 = .ok (.iload_n 1, 1) := by decide +kernel
theorem dX10_isUnder_1 : decode cX10_isUnder 1 = .ok (.ifCond .eq 39, 3) := by decide +kernel
theorem dX10_isUnder_4 : decode cX10_isUnder 4 = .ok (.iload_n 1, 1) := by decide +kernel
theorem dX10_isUnder_5 : decode cX10_isUnder 5 = .ok (.iload_n 0, 1) := by decide +kernel
theorem dX10_isUnder_6 : decode cX10_isUnder 6 = .ok (.if_icmp .eq 34, 3) := by decide +kernel
theorem dX10_isUnder_9 : decode cX10_isUnder 9 = .ok (.iload_n 1, 1) := by decide +kernel
theorem dX10_isUnder_10 : decode cX10_isUnder 10 = .ok (.iconst 1, 1) := by decide +kernel
theorem dX10_isUnder_11 : decode cX10_isUnder 11 = .ok (.if_icmp .ne 8, 3) := by decide +kernel
theorem dX10_isUnder_14 : decode cX10_isUnder 14 = .ok (.iload_n 0, 1) := by decide +kernel
theorem dX10_isUnder_15 : decode cX10_isUnder 15 = .ok (.iconst 4, 1) := by decide +kernel
theorem dX10_isUnder_16 : decode cX10_isUnder 16 = .ok (.if_icmp .eq 24, 3) := by decide +kernel
theorem dX10_isUnder_19 : decode cX10_isUnder 19 = .ok (.iload_n 1, 1) := by decide +kernel
theorem dX10_isUnder_20 : decode cX10_isUnder 20 = .ok (.iconst 2, 1) := by decide +kernel
theorem dX10_isUnder_21 : decode cX10_isUnder 21 = .ok (.if_icmp .ne 8, 3) := by decide +kernel
theorem dX10_isUnder_24 : decode cX10_isUnder 24 = .ok (.iload_n 0, 1) := by decide +kernel
theorem dX10_isUnder_25 : decode cX10_isUnder 25 = .ok (.iconst 5, 1) := by decide +kernel
theorem dX10_isUnder_26 : decode cX10_isUnder 26 = .ok (.if_icmp .eq 14, 3) := by decide +kernel
theorem dX10_isUnder_29 : decode cX10_isUnder 29 = .ok (.iload_n 1, 1) := by decide +kernel
theorem dX10_isUnder_30 : decode cX10_isUnder 30 = .ok (.iconst 3, 1) := by decide +kernel
theorem dX10_isUnder_31 : decode cX10_isUnder 31 = .ok (.if_icmp .ne 13, 3) := by decide +kernel
theorem dX10_isUnder_34 : decode cX10_isUnder 34 = .ok (.iload_n 0, 1) := by decide +kernel
theorem dX10_isUnder_35 : decode cX10_isUnder 35 = .ok (.bipush 6, 2) := by decide +kernel
theorem dX10_isUnder_37 : decode cX10_isUnder 37 = .ok (.if_icmp .ne 7, 3) := by decide +kernel
theorem dX10_isUnder_40 : decode cX10_isUnder 40 = .ok (.iconst 1, 1) := by decide +kernel
theorem dX10_isUnder_41 : decode cX10_isUnder 41 = .ok (.goto 4, 3) := by decide +kernel
theorem dX10_isUnder_44 : decode cX10_isUnder 44 = .ok (.iconst 0, 1) := by decide +kernel
theorem dX10_isUnder_45 : decode cX10_isUnder 45 = .ok (.ireturn, 1) := by decide +kernel
theorem dX10_plainGrows_0 : decode cX10_plainGrows 0 = .ok (.aload_n 0, 1) := by decide +kernel
theorem dX10_plainGrows_1 : decode cX10_plainGrows 1 = .ok (.iconst 1, 1) := by decide +kernel
theorem dX10_plainGrows_2 : decode cX10_plainGrows 2 = .ok (.invokevirtual 256, 3) := by decide +kernel
theorem dX10_plainGrows_5 : decode cX10_plainGrows 5 = .ok (.iload_n 1, 1) := by decide +kernel
theorem dX10_plainGrows_6 : decode cX10_plainGrows 6 = .ok (.aload_n 0, 1) := by decide +kernel
theorem dX10_plainGrows_7 : decode cX10_plainGrows 7 = .ok (.getfield 259, 3) := by decide +kernel
theorem dX10_plainGrows_10 : decode cX10_plainGrows 10 = .ok (.iadd, 1) := by decide +kernel
theorem dX10_plainGrows_11 : decode cX10_plainGrows 11 = .ok (.ireturn, 1) := by decide +kernel
theorem dX10_growsActs_0 : decode cX10_growsActs 0 = .ok (.aload_n 0, 1) := by decide +kernel
theorem dX10_growsActs_1 : decode cX10_growsActs 1 = .ok (.getfield 262, 3) := by decide +kernel
theorem dX10_growsActs_4 : decode cX10_growsActs 4 = .ok (.iconst 1, 1) := by decide +kernel
theorem dX10_growsActs_5 : decode cX10_growsActs 5 = .ok (.invokestatic 265, 3) := by decide +kernel
theorem dX10_growsActs_8 : decode cX10_growsActs 8 = .ok (.ifCond .eq 17, 3) := by decide +kernel
theorem dX10_growsActs_11 : decode cX10_growsActs 11 = .ok (.aload_n 0, 1) := by decide +kernel
theorem dX10_growsActs_12 : decode cX10_growsActs 12 = .ok (.bipush 11, 2) := by decide +kernel
theorem dX10_growsActs_14 : decode cX10_growsActs 14 = .ok (.invokevirtual 256, 3) := by decide +kernel
theorem dX10_growsActs_17 : decode cX10_growsActs 17 = .ok (.aload_n 0, 1) := by decide +kernel
theorem dX10_growsActs_18 : decode cX10_growsActs 18 = .ok (.iload_n 1, 1) := by decide +kernel
theorem dX10_growsActs_19 : decode cX10_growsActs 19 = .ok (.iconst 3, 1) := by decide +kernel
theorem dX10_growsActs_20 : decode cX10_growsActs 20 = .ok (.imul, 1) := by decide +kernel
theorem dX10_growsActs_21 : decode cX10_growsActs 21 = .ok (.invokevirtual 268, 3) := by decide +kernel
theorem dX10_growsActs_24 : decode cX10_growsActs 24 = .ok (.ireturn, 1) := by decide +kernel
theorem dX10_growsActs_25 : decode cX10_growsActs 25 = .ok (.aload_n 0, 1) := by decide +kernel
theorem dX10_growsActs_26 : decode cX10_growsActs 26 = .ok (.getfield 262, 3) := by decide +kernel
theorem dX10_growsActs_29 : decode cX10_growsActs 29 = .ok (.iconst 5, 1) := by decide +kernel
theorem dX10_growsActs_30 : decode cX10_growsActs 30 = .ok (.if_icmp .ne 20, 3) := by decide +kernel
theorem dX10_growsActs_33 : decode cX10_growsActs 33 = .ok (.aload_n 0, 1) := by decide +kernel
theorem dX10_growsActs_34 : decode cX10_growsActs 34 = .ok (.bipush 51, 2) := by decide +kernel
theorem dX10_growsActs_36 : decode cX10_growsActs 36 = .ok (.invokevirtual 256, 3) := by decide +kernel
theorem dX10_growsActs_39 : decode cX10_growsActs 39 = .ok (.aload_n 0, 1) := by decide +kernel
theorem dX10_growsActs_40 : decode cX10_growsActs 40 = .ok (.iload_n 1, 1) := by decide +kernel
theorem dX10_growsActs_41 : decode cX10_growsActs 41 = .ok (.invokevirtual 268, 3) := by decide +kernel
theorem dX10_growsActs_44 : decode cX10_growsActs 44 = .ok (.aload_n 0, 1) := by decide +kernel
theorem dX10_growsActs_45 : decode cX10_growsActs 45 = .ok (.getfield 259, 3) := by decide +kernel
theorem dX10_growsActs_48 : decode cX10_growsActs 48 = .ok (.ixor, 1) := by decide +kernel
theorem dX10_growsActs_49 : decode cX10_growsActs 49 = .ok (.ireturn, 1) := by decide +kernel
theorem dX10_growsActs_50 : decode cX10_growsActs 50 = .ok (.aload_n 0, 1) := by decide +kernel
theorem dX10_growsActs_51 : decode cX10_growsActs 51 = .ok (.iload_n 1, 1) := by decide +kernel
theorem dX10_growsActs_52 : decode cX10_growsActs 52 = .ok (.invokevirtual 268, 3) := by decide +kernel
theorem dX10_growsActs_55 : decode cX10_growsActs 55 = .ok (.ireturn, 1) := by decide +kernel
theorem dX10_plainStrikes_0 : decode cX10_plainStrikes 0 = .ok (.aload_n 0, 1) := by decide +kernel
theorem dX10_plainStrikes_1 : decode cX10_plainStrikes 1 = .ok (.iconst 2, 1) := by decide +kernel
theorem dX10_plainStrikes_2 : decode cX10_plainStrikes 2 = .ok (.invokevirtual 256, 3) := by decide +kernel
theorem dX10_plainStrikes_5 : decode cX10_plainStrikes 5 = .ok (.aload_n 0, 1) := by decide +kernel
theorem dX10_plainStrikes_6 : decode cX10_plainStrikes 6 = .ok (.iload_n 1, 1) := by decide +kernel
theorem dX10_plainStrikes_7 : decode cX10_plainStrikes 7 = .ok (.invokevirtual 271, 3) := by decide +kernel
theorem dX10_plainStrikes_10 : decode cX10_plainStrikes 10 = .ok (.aload_n 0, 1) := by decide +kernel
theorem dX10_plainStrikes_11 : decode cX10_plainStrikes 11 = .ok (.getfield 274, 3) := by decide +kernel
theorem dX10_plainStrikes_14 : decode cX10_plainStrikes 14 = .ok (.isub, 1) := by decide +kernel
theorem dX10_plainStrikes_15 : decode cX10_plainStrikes 15 = .ok (.ireturn, 1) := by decide +kernel
theorem dX10_strikesActs_0 : decode cX10_strikesActs 0 = .ok (.aload_n 0, 1) := by decide +kernel
theorem dX10_strikesActs_1 : decode cX10_strikesActs 1 = .ok (.getfield 262, 3) := by decide +kernel
theorem dX10_strikesActs_4 : decode cX10_strikesActs 4 = .ok (.iconst 2, 1) := by decide +kernel
theorem dX10_strikesActs_5 : decode cX10_strikesActs 5 = .ok (.invokestatic 265, 3) := by decide +kernel
theorem dX10_strikesActs_8 : decode cX10_strikesActs 8 = .ok (.ifCond .eq 16, 3) := by decide +kernel
theorem dX10_strikesActs_11 : decode cX10_strikesActs 11 = .ok (.aload_n 0, 1) := by decide +kernel
theorem dX10_strikesActs_12 : decode cX10_strikesActs 12 = .ok (.bipush 21, 2) := by decide +kernel
theorem dX10_strikesActs_14 : decode cX10_strikesActs 14 = .ok (.invokevirtual 256, 3) := by decide +kernel
theorem dX10_strikesActs_17 : decode cX10_strikesActs 17 = .ok (.aload_n 0, 1) := by decide +kernel
theorem dX10_strikesActs_18 : decode cX10_strikesActs 18 = .ok (.iload_n 1, 1) := by decide +kernel
theorem dX10_strikesActs_19 : decode cX10_strikesActs 19 = .ok (.invokevirtual 277, 3) := by decide +kernel
theorem dX10_strikesActs_22 : decode cX10_strikesActs 22 = .ok (.ineg, 1) := by decide +kernel
theorem dX10_strikesActs_23 : decode cX10_strikesActs 23 = .ok (.ireturn, 1) := by decide +kernel
theorem dX10_strikesActs_24 : decode cX10_strikesActs 24 = .ok (.aload_n 0, 1) := by decide +kernel
theorem dX10_strikesActs_25 : decode cX10_strikesActs 25 = .ok (.getfield 262, 3) := by decide +kernel
theorem dX10_strikesActs_28 : decode cX10_strikesActs 28 = .ok (.bipush 6, 2) := by decide +kernel
theorem dX10_strikesActs_30 : decode cX10_strikesActs 30 = .ok (.if_icmp .ne 20, 3) := by decide +kernel
theorem dX10_strikesActs_33 : decode cX10_strikesActs 33 = .ok (.aload_n 0, 1) := by decide +kernel
theorem dX10_strikesActs_34 : decode cX10_strikesActs 34 = .ok (.bipush 61, 2) := by decide +kernel
theorem dX10_strikesActs_36 : decode cX10_strikesActs 36 = .ok (.invokevirtual 256, 3) := by decide +kernel
theorem dX10_strikesActs_39 : decode cX10_strikesActs 39 = .ok (.aload_n 0, 1) := by decide +kernel
theorem dX10_strikesActs_40 : decode cX10_strikesActs 40 = .ok (.iload_n 1, 1) := by decide +kernel
theorem dX10_strikesActs_41 : decode cX10_strikesActs 41 = .ok (.invokevirtual 277, 3) := by decide +kernel
theorem dX10_strikesActs_44 : decode cX10_strikesActs 44 = .ok (.aload_n 0, 1) := by decide +kernel
theorem dX10_strikesActs_45 : decode cX10_strikesActs 45 = .ok (.getfield 274, 3) := by decide +kernel
theorem dX10_strikesActs_48 : decode cX10_strikesActs 48 = .ok (.iadd, 1) := by decide +kernel
theorem dX10_strikesActs_49 : decode cX10_strikesActs 49 = .ok (.ireturn, 1) := by decide +kernel
theorem dX10_strikesActs_50 : decode cX10_strikesActs 50 = .ok (.aload_n 0, 1) := by decide +kernel
theorem dX10_strikesActs_51 : decode cX10_strikesActs 51 = .ok (.iload_n 1, 1) := by decide +kernel
theorem dX10_strikesActs_52 : decode cX10_strikesActs 52 = .ok (.invokevirtual 277, 3) := by decide +kernel
theorem dX10_strikesActs_55 : decode cX10_strikesActs 55 = .ok (.ireturn, 1) := by decide +kernel
theorem dX10_plainTells_0 : decode cX10_plainTells 0 = .ok (.aload_n 0, 1) := by decide +kernel
theorem dX10_plainTells_1 : decode cX10_plainTells 1 = .ok (.iconst 3, 1) := by decide +kernel
theorem dX10_plainTells_2 : decode cX10_plainTells 2 = .ok (.invokevirtual 256, 3) := by decide +kernel
theorem dX10_plainTells_5 : decode cX10_plainTells 5 = .ok (.aload_n 0, 1) := by decide +kernel
theorem dX10_plainTells_6 : decode cX10_plainTells 6 = .ok (.iload_n 1, 1) := by decide +kernel
theorem dX10_plainTells_7 : decode cX10_plainTells 7 = .ok (.invokevirtual 280, 3) := by decide +kernel
theorem dX10_plainTells_10 : decode cX10_plainTells 10 = .ok (.iconst 2, 1) := by decide +kernel
theorem dX10_plainTells_11 : decode cX10_plainTells 11 = .ok (.imul, 1) := by decide +kernel
theorem dX10_plainTells_12 : decode cX10_plainTells 12 = .ok (.ireturn, 1) := by decide +kernel
theorem dX10_tellsActs_0 : decode cX10_tellsActs 0 = .ok (.aload_n 0, 1) := by decide +kernel
theorem dX10_tellsActs_1 : decode cX10_tellsActs 1 = .ok (.getfield 262, 3) := by decide +kernel
theorem dX10_tellsActs_4 : decode cX10_tellsActs 4 = .ok (.iconst 3, 1) := by decide +kernel
theorem dX10_tellsActs_5 : decode cX10_tellsActs 5 = .ok (.invokestatic 265, 3) := by decide +kernel
theorem dX10_tellsActs_8 : decode cX10_tellsActs 8 = .ok (.ifCond .eq 18, 3) := by decide +kernel
theorem dX10_tellsActs_11 : decode cX10_tellsActs 11 = .ok (.aload_n 0, 1) := by decide +kernel
theorem dX10_tellsActs_12 : decode cX10_tellsActs 12 = .ok (.bipush 31, 2) := by decide +kernel
theorem dX10_tellsActs_14 : decode cX10_tellsActs 14 = .ok (.invokevirtual 256, 3) := by decide +kernel
theorem dX10_tellsActs_17 : decode cX10_tellsActs 17 = .ok (.aload_n 0, 1) := by decide +kernel
theorem dX10_tellsActs_18 : decode cX10_tellsActs 18 = .ok (.iload_n 1, 1) := by decide +kernel
theorem dX10_tellsActs_19 : decode cX10_tellsActs 19 = .ok (.invokevirtual 283, 3) := by decide +kernel
theorem dX10_tellsActs_22 : decode cX10_tellsActs 22 = .ok (.bipush 7, 2) := by decide +kernel
theorem dX10_tellsActs_24 : decode cX10_tellsActs 24 = .ok (.ixor, 1) := by decide +kernel
theorem dX10_tellsActs_25 : decode cX10_tellsActs 25 = .ok (.ireturn, 1) := by decide +kernel
theorem dX10_tellsActs_26 : decode cX10_tellsActs 26 = .ok (.aload_n 0, 1) := by decide +kernel
theorem dX10_tellsActs_27 : decode cX10_tellsActs 27 = .ok (.getfield 262, 3) := by decide +kernel
theorem dX10_tellsActs_30 : decode cX10_tellsActs 30 = .ok (.iconst 4, 1) := by decide +kernel
theorem dX10_tellsActs_31 : decode cX10_tellsActs 31 = .ok (.if_icmp .ne 25, 3) := by decide +kernel
theorem dX10_tellsActs_34 : decode cX10_tellsActs 34 = .ok (.aload_n 0, 1) := by decide +kernel
theorem dX10_tellsActs_35 : decode cX10_tellsActs 35 = .ok (.bipush 41, 2) := by decide +kernel
theorem dX10_tellsActs_37 : decode cX10_tellsActs 37 = .ok (.invokevirtual 256, 3) := by decide +kernel
theorem dX10_tellsActs_40 : decode cX10_tellsActs 40 = .ok (.aload_n 0, 1) := by decide +kernel
theorem dX10_tellsActs_41 : decode cX10_tellsActs 41 = .ok (.iload_n 1, 1) := by decide +kernel
theorem dX10_tellsActs_42 : decode cX10_tellsActs 42 = .ok (.iconst 1, 1) := by decide +kernel
theorem dX10_tellsActs_43 : decode cX10_tellsActs 43 = .ok (.isub, 1) := by decide +kernel
theorem dX10_tellsActs_44 : decode cX10_tellsActs 44 = .ok (.invokevirtual 283, 3) := by decide +kernel
theorem dX10_tellsActs_47 : decode cX10_tellsActs 47 = .ok (.istore_n 2, 1) := by decide +kernel
theorem dX10_tellsActs_48 : decode cX10_tellsActs 48 = .ok (.iload_n 2, 1) := by decide +kernel
theorem dX10_tellsActs_49 : decode cX10_tellsActs 49 = .ok (.aload_n 0, 1) := by decide +kernel
theorem dX10_tellsActs_50 : decode cX10_tellsActs 50 = .ok (.iconst 2, 1) := by decide +kernel
theorem dX10_tellsActs_51 : decode cX10_tellsActs 51 = .ok (.invokevirtual 271, 3) := by decide +kernel
theorem dX10_tellsActs_54 : decode cX10_tellsActs 54 = .ok (.iadd, 1) := by decide +kernel
theorem dX10_tellsActs_55 : decode cX10_tellsActs 55 = .ok (.ireturn, 1) := by decide +kernel
theorem dX10_tellsActs_56 : decode cX10_tellsActs 56 = .ok (.aload_n 0, 1) := by decide +kernel
theorem dX10_tellsActs_57 : decode cX10_tellsActs 57 = .ok (.iload_n 1, 1) := by decide +kernel
theorem dX10_tellsActs_58 : decode cX10_tellsActs 58 = .ok (.invokevirtual 283, 3) := by decide +kernel
theorem dX10_tellsActs_61 : decode cX10_tellsActs 61 = .ok (.ireturn, 1) := by decide +kernel
theorem dX10_act_0 : decode cX10_act 0 = .ok (.aload_n 0, 1) := by decide +kernel
theorem dX10_act_1 : decode cX10_act 1 = .ok (.iconst 0, 1) := by decide +kernel
theorem dX10_act_2 : decode cX10_act 2 = .ok (.putfield 253, 3) := by decide +kernel
theorem dX10_act_5 : decode cX10_act 5 = .ok (.aload_n 0, 1) := by decide +kernel
theorem dX10_act_6 : decode cX10_act 6 = .ok (.iload_n 1, 1) := by decide +kernel
theorem dX10_act_7 : decode cX10_act 7 = .ok (.invokevirtual 202, 3) := by decide +kernel
theorem dX10_act_10 : decode cX10_act 10 = .ok (.ifCond .eq 12, 3) := by decide +kernel
theorem dX10_act_13 : decode cX10_act 13 = .ok (.iload_n 2, 1) := by decide +kernel
theorem dX10_act_14 : decode cX10_act 14 = .ok (.iconst 0, 1) := by decide +kernel
theorem dX10_act_15 : decode cX10_act 15 = .ok (.iconst 2, 1) := by decide +kernel
theorem dX10_act_16 : decode cX10_act 16 = .ok (.invokestatic 44, 3) := by decide +kernel
theorem dX10_act_19 : decode cX10_act 19 = .ok (.ifCond .ne 5, 3) := by decide +kernel
theorem dX10_act_22 : decode cX10_act 22 = .ok (.iconst 0, 1) := by decide +kernel
theorem dX10_act_23 : decode cX10_act 23 = .ok (.ireturn, 1) := by decide +kernel
theorem dX10_act_24 : decode cX10_act 24 = .ok (.aload_n 0, 1) := by decide +kernel
theorem dX10_act_25 : decode cX10_act 25 = .ok (.aload_n 0, 1) := by decide +kernel
theorem dX10_act_26 : decode cX10_act 26 = .ok (.getfield 9, 3) := by decide +kernel
theorem dX10_act_29 : decode cX10_act 29 = .ok (.sipush 250, 3) := by decide +kernel
theorem dX10_act_32 : decode cX10_act 32 = .ok (.iload_n 1, 1) := by decide +kernel
theorem dX10_act_33 : decode cX10_act 33 = .ok (.iadd, 1) := by decide +kernel
theorem dX10_act_34 : decode cX10_act 34 = .ok (.iaload, 1) := by decide +kernel
theorem dX10_act_35 : decode cX10_act 35 = .ok (.putfield 262, 3) := by decide +kernel
theorem dX10_act_38 : decode cX10_act 38 = .ok (.aload_n 0, 1) := by decide +kernel
theorem dX10_act_39 : decode cX10_act 39 = .ok (.iload_n 1, 1) := by decide +kernel
theorem dX10_act_40 : decode cX10_act 40 = .ok (.putfield 259, 3) := by decide +kernel
theorem dX10_act_43 : decode cX10_act 43 = .ok (.aload_n 0, 1) := by decide +kernel
theorem dX10_act_44 : decode cX10_act 44 = .ok (.aload_n 0, 1) := by decide +kernel
theorem dX10_act_45 : decode cX10_act 45 = .ok (.getfield 9, 3) := by decide +kernel
theorem dX10_act_48 : decode cX10_act 48 = .ok (.sipush 270, 3) := by decide +kernel
theorem dX10_act_51 : decode cX10_act 51 = .ok (.iload_n 1, 1) := by decide +kernel
theorem dX10_act_52 : decode cX10_act 52 = .ok (.iadd, 1) := by decide +kernel
theorem dX10_act_53 : decode cX10_act 53 = .ok (.iaload, 1) := by decide +kernel
theorem dX10_act_54 : decode cX10_act 54 = .ok (.putfield 274, 3) := by decide +kernel
theorem dX10_act_57 : decode cX10_act 57 = .ok (.iload_n 2, 1) := by decide +kernel
theorem dX10_act_58 : decode cX10_act 58 = .ok (.ifCond .ne 11, 3) := by decide +kernel
theorem dX10_act_61 : decode cX10_act 61 = .ok (.aload_n 0, 1) := by decide +kernel
theorem dX10_act_62 : decode cX10_act 62 = .ok (.iload_n 3, 1) := by decide +kernel
theorem dX10_act_63 : decode cX10_act 63 = .ok (.invokevirtual 271, 3) := by decide +kernel
theorem dX10_act_66 : decode cX10_act 66 = .ok (.goto 21, 3) := by decide +kernel
theorem dX10_act_69 : decode cX10_act 69 = .ok (.iload_n 2, 1) := by decide +kernel
theorem dX10_act_70 : decode cX10_act 70 = .ok (.iconst 1, 1) := by decide +kernel
theorem dX10_act_71 : decode cX10_act 71 = .ok (.if_icmp .ne 11, 3) := by decide +kernel
theorem dX10_act_74 : decode cX10_act 74 = .ok (.aload_n 0, 1) := by decide +kernel
theorem dX10_act_75 : decode cX10_act 75 = .ok (.iload_n 3, 1) := by decide +kernel
theorem dX10_act_76 : decode cX10_act 76 = .ok (.invokevirtual 280, 3) := by decide +kernel
theorem dX10_act_79 : decode cX10_act 79 = .ok (.goto 8, 3) := by decide +kernel
theorem dX10_act_82 : decode cX10_act 82 = .ok (.aload_n 0, 1) := by decide +kernel
theorem dX10_act_83 : decode cX10_act 83 = .ok (.iload_n 3, 1) := by decide +kernel
theorem dX10_act_84 : decode cX10_act 84 = .ok (.invokevirtual 286, 3) := by decide +kernel
theorem dX10_act_87 : decode cX10_act 87 = .ok (.ireturn, 1) := by decide +kernel
theorem dX10_trace_0 : decode cX10_trace 0 = .ok (.iload_n 1, 1) := by decide +kernel
theorem dX10_trace_1 : decode cX10_trace 1 = .ok (.iconst 0, 1) := by decide +kernel
theorem dX10_trace_2 : decode cX10_trace 2 = .ok (.aload_n 0, 1) := by decide +kernel
theorem dX10_trace_3 : decode cX10_trace 3 = .ok (.getfield 253, 3) := by decide +kernel
theorem dX10_trace_6 : decode cX10_trace 6 = .ok (.bipush 20, 2) := by decide +kernel
theorem dX10_trace_8 : decode cX10_trace 8 = .ok (.if_icmp .ge 10, 3) := by decide +kernel
theorem dX10_trace_11 : decode cX10_trace 11 = .ok (.aload_n 0, 1) := by decide +kernel
theorem dX10_trace_12 : decode cX10_trace 12 = .ok (.getfield 253, 3) := by decide +kernel
theorem dX10_trace_15 : decode cX10_trace 15 = .ok (.goto 5, 3) := by decide +kernel
theorem dX10_trace_18 : decode cX10_trace 18 = .ok (.bipush 20, 2) := by decide +kernel
theorem dX10_trace_20 : decode cX10_trace 20 = .ok (.iconst 1, 1) := by decide +kernel
theorem dX10_trace_21 : decode cX10_trace 21 = .ok (.isub, 1) := by decide +kernel
theorem dX10_trace_22 : decode cX10_trace 22 = .ok (.invokestatic 44, 3) := by decide +kernel
theorem dX10_trace_25 : decode cX10_trace 25 = .ok (.ifCond .eq 12, 3) := by decide +kernel
theorem dX10_trace_28 : decode cX10_trace 28 = .ok (.aload_n 0, 1) := by decide +kernel
theorem dX10_trace_29 : decode cX10_trace 29 = .ok (.getfield 37, 3) := by decide +kernel
theorem dX10_trace_32 : decode cX10_trace 32 = .ok (.iload_n 1, 1) := by decide +kernel
theorem dX10_trace_33 : decode cX10_trace 33 = .ok (.iaload, 1) := by decide +kernel
theorem dX10_trace_34 : decode cX10_trace 34 = .ok (.goto 4, 3) := by decide +kernel
theorem dX10_trace_37 : decode cX10_trace 37 = .ok (.iconst (-1), 1) := by decide +kernel
theorem dX10_trace_38 : decode cX10_trace 38 = .ok (.ireturn, 1) := by decide +kernel
theorem dX10_as_0 : decode cX10_as 0 = .ok (.aload_n 0, 1) := by decide +kernel
theorem dX10_as_1 : decode cX10_as 1 = .ok (.iload_n 1, 1) := by decide +kernel
theorem dX10_as_2 : decode cX10_as 2 = .ok (.invokevirtual 202, 3) := by decide +kernel
theorem dX10_as_5 : decode cX10_as 5 = .ok (.ifCond .eq 13, 3) := by decide +kernel
theorem dX10_as_8 : decode cX10_as 8 = .ok (.iload_n 2, 1) := by decide +kernel
theorem dX10_as_9 : decode cX10_as 9 = .ok (.iconst 0, 1) := by decide +kernel
theorem dX10_as_10 : decode cX10_as 10 = .ok (.bipush 6, 2) := by decide +kernel
theorem dX10_as_12 : decode cX10_as 12 = .ok (.invokestatic 44, 3) := by decide +kernel
theorem dX10_as_15 : decode cX10_as 15 = .ok (.ifCond .ne 5, 3) := by decide +kernel
theorem dX10_as_18 : decode cX10_as 18 = .ok (.iconst (-1), 1) := by decide +kernel
theorem dX10_as_19 : decode cX10_as 19 = .ok (.ireturn, 1) := by decide +kernel
theorem dX10_as_20 : decode cX10_as 20 = .ok (.aload_n 0, 1) := by decide +kernel
theorem dX10_as_21 : decode cX10_as 21 = .ok (.getfield 9, 3) := by decide +kernel
theorem dX10_as_24 : decode cX10_as 24 = .ok (.sipush 250, 3) := by decide +kernel
theorem dX10_as_27 : decode cX10_as 27 = .ok (.iload_n 1, 1) := by decide +kernel
theorem dX10_as_28 : decode cX10_as 28 = .ok (.iadd, 1) := by decide +kernel
theorem dX10_as_29 : decode cX10_as 29 = .ok (.iaload, 1) := by decide +kernel
theorem dX10_as_30 : decode cX10_as 30 = .ok (.iload_n 2, 1) := by decide +kernel
theorem dX10_as_31 : decode cX10_as 31 = .ok (.invokestatic 265, 3) := by decide +kernel
theorem dX10_as_34 : decode cX10_as 34 = .ok (.ifCond .eq 16, 3) := by decide +kernel
theorem dX10_as_37 : decode cX10_as 37 = .ok (.aload_n 0, 1) := by decide +kernel
theorem dX10_as_38 : decode cX10_as 38 = .ok (.getfield 9, 3) := by decide +kernel
theorem dX10_as_41 : decode cX10_as 41 = .ok (.sipush 270, 3) := by decide +kernel
theorem dX10_as_44 : decode cX10_as 44 = .ok (.iload_n 1, 1) := by decide +kernel
theorem dX10_as_45 : decode cX10_as 45 = .ok (.iadd, 1) := by decide +kernel
theorem dX10_as_46 : decode cX10_as 46 = .ok (.iaload, 1) := by decide +kernel
theorem dX10_as_47 : decode cX10_as 47 = .ok (.goto 5, 3) := by decide +kernel
theorem dX10_as_50 : decode cX10_as 50 = .ok (.bipush (-6), 2) := by decide +kernel
theorem dX10_as_52 : decode cX10_as 52 = .ok (.ireturn, 1) := by decide +kernel
theorem dX10_image_0 : decode cX10_image 0 = .ok (.iconst 0, 1) := by decide +kernel
theorem dX10_image_1 : decode cX10_image 1 = .ok (.istore_n 1, 1) := by decide +kernel
theorem dX10_image_2 : decode cX10_image 2 = .ok (.iload_n 1, 1) := by decide +kernel
theorem dX10_image_3 : decode cX10_image 3 = .ok (.sipush 1066, 3) := by decide +kernel
theorem dX10_image_6 : decode cX10_image 6 = .ok (.if_icmp .ge 21, 3) := by decide +kernel
theorem dX10_image_9 : decode cX10_image 9 = .ok (.aload_n 0, 1) := by decide +kernel
theorem dX10_image_10 : decode cX10_image 10 = .ok (.getfield 15, 3) := by decide +kernel
theorem dX10_image_13 : decode cX10_image 13 = .ok (.iload_n 1, 1) := by decide +kernel
theorem dX10_image_14 : decode cX10_image 14 = .ok (.aload_n 0, 1) := by decide +kernel
theorem dX10_image_15 : decode cX10_image 15 = .ok (.getfield 9, 3) := by decide +kernel
theorem dX10_image_18 : decode cX10_image 18 = .ok (.iload_n 1, 1) := by decide +kernel
theorem dX10_image_19 : decode cX10_image 19 = .ok (.iaload, 1) := by decide +kernel
theorem dX10_image_20 : decode cX10_image 20 = .ok (.iastore, 1) := by decide +kernel
theorem dX10_image_21 : decode cX10_image 21 = .ok (.iinc 1 1, 3) := by decide +kernel
theorem dX10_image_24 : decode cX10_image 24 = .ok (.goto (-22), 3) := by decide +kernel
theorem dX10_image_27 : decode cX10_image 27 = .ok (.aload_n 0, 1) := by decide +kernel
theorem dX10_image_28 : decode cX10_image 28 = .ok (.iconst 1, 1) := by decide +kernel
theorem dX10_image_29 : decode cX10_image 29 = .ok (.putfield 289, 3) := by decide +kernel
theorem dX10_image_32 : decode cX10_image 32 = .ok (.aload_n 0, 1) := by decide +kernel
theorem dX10_image_33 : decode cX10_image 33 = .ok (.getfield 9, 3) := by decide +kernel
theorem dX10_image_36 : decode cX10_image 36 = .ok (.iconst 0, 1) := by decide +kernel
theorem dX10_image_37 : decode cX10_image 37 = .ok (.iaload, 1) := by decide +kernel
theorem dX10_image_38 : decode cX10_image 38 = .ok (.ireturn, 1) := by decide +kernel
theorem dX10_undo_0 : decode cX10_undo 0 = .ok (.aload_n 0, 1) := by decide +kernel
theorem dX10_undo_1 : decode cX10_undo 1 = .ok (.getfield 289, 3) := by decide +kernel
theorem dX10_undo_4 : decode cX10_undo 4 = .ok (.ifCond .ne 6, 3) := by decide +kernel
theorem dX10_undo_7 : decode cX10_undo 7 = .ok (.bipush (-3), 2) := by decide +kernel
theorem dX10_undo_9 : decode cX10_undo 9 = .ok (.ireturn, 1) := by decide +kernel
theorem dX10_undo_10 : decode cX10_undo 10 = .ok (.iconst 0, 1) := by decide +kernel
theorem dX10_undo_11 : decode cX10_undo 11 = .ok (.istore_n 1, 1) := by decide +kernel
theorem dX10_undo_12 : decode cX10_undo 12 = .ok (.iload_n 1, 1) := by decide +kernel
theorem dX10_undo_13 : decode cX10_undo 13 = .ok (.sipush 1066, 3) := by decide +kernel
theorem dX10_undo_16 : decode cX10_undo 16 = .ok (.if_icmp .ge 21, 3) := by decide +kernel
theorem dX10_undo_19 : decode cX10_undo 19 = .ok (.aload_n 0, 1) := by decide +kernel
theorem dX10_undo_20 : decode cX10_undo 20 = .ok (.getfield 9, 3) := by decide +kernel
theorem dX10_undo_23 : decode cX10_undo 23 = .ok (.iload_n 1, 1) := by decide +kernel
theorem dX10_undo_24 : decode cX10_undo 24 = .ok (.aload_n 0, 1) := by decide +kernel
theorem dX10_undo_25 : decode cX10_undo 25 = .ok (.getfield 15, 3) := by decide +kernel
theorem dX10_undo_28 : decode cX10_undo 28 = .ok (.iload_n 1, 1) := by decide +kernel
theorem dX10_undo_29 : decode cX10_undo 29 = .ok (.iaload, 1) := by decide +kernel
theorem dX10_undo_30 : decode cX10_undo 30 = .ok (.iastore, 1) := by decide +kernel
theorem dX10_undo_31 : decode cX10_undo 31 = .ok (.iinc 1 1, 3) := by decide +kernel
theorem dX10_undo_34 : decode cX10_undo 34 = .ok (.goto (-22), 3) := by decide +kernel
theorem dX10_undo_37 : decode cX10_undo 37 = .ok (.aload_n 0, 1) := by decide +kernel
theorem dX10_undo_38 : decode cX10_undo 38 = .ok (.getfield 9, 3) := by decide +kernel
theorem dX10_undo_41 : decode cX10_undo 41 = .ok (.iconst 0, 1) := by decide +kernel
theorem dX10_undo_42 : decode cX10_undo 42 = .ok (.iaload, 1) := by decide +kernel
theorem dX10_undo_43 : decode cX10_undo 43 = .ok (.ireturn, 1) := by decide +kernel
theorem dX10_count_0 : decode cX10_count 0 = .ok (.iload_n 1, 1) := by decide +kernel
theorem dX10_count_1 : decode cX10_count 1 = .ok (.tableswitch 68 0 4 #[35, 42, 49, 56, 63], 35) := by decide +kernel
theorem dX10_count_36 : decode cX10_count 36 = .ok (.aload_n 0, 1) := by decide +kernel
theorem dX10_count_37 : decode cX10_count 37 = .ok (.getfield 9, 3) := by decide +kernel
theorem dX10_count_40 : decode cX10_count 40 = .ok (.iconst 0, 1) := by decide +kernel
theorem dX10_count_41 : decode cX10_count 41 = .ok (.iaload, 1) := by decide +kernel
theorem dX10_count_42 : decode cX10_count 42 = .ok (.ireturn, 1) := by decide +kernel
theorem dX10_count_43 : decode cX10_count 43 = .ok (.aload_n 0, 1) := by decide +kernel
theorem dX10_count_44 : decode cX10_count 44 = .ok (.getfield 9, 3) := by decide +kernel
theorem dX10_count_47 : decode cX10_count 47 = .ok (.iconst 1, 1) := by decide +kernel
theorem dX10_count_48 : decode cX10_count 48 = .ok (.iaload, 1) := by decide +kernel
theorem dX10_count_49 : decode cX10_count 49 = .ok (.ireturn, 1) := by decide +kernel
theorem dX10_count_50 : decode cX10_count 50 = .ok (.aload_n 0, 1) := by decide +kernel
theorem dX10_count_51 : decode cX10_count 51 = .ok (.getfield 9, 3) := by decide +kernel
theorem dX10_count_54 : decode cX10_count 54 = .ok (.iconst 2, 1) := by decide +kernel
theorem dX10_count_55 : decode cX10_count 55 = .ok (.iaload, 1) := by decide +kernel
theorem dX10_count_56 : decode cX10_count 56 = .ok (.ireturn, 1) := by decide +kernel
theorem dX10_count_57 : decode cX10_count 57 = .ok (.aload_n 0, 1) := by decide +kernel
theorem dX10_count_58 : decode cX10_count 58 = .ok (.getfield 9, 3) := by decide +kernel
theorem dX10_count_61 : decode cX10_count 61 = .ok (.iconst 3, 1) := by decide +kernel
theorem dX10_count_62 : decode cX10_count 62 = .ok (.iaload, 1) := by decide +kernel
theorem dX10_count_63 : decode cX10_count 63 = .ok (.ireturn, 1) := by decide +kernel
theorem dX10_count_64 : decode cX10_count 64 = .ok (.aload_n 0, 1) := by decide +kernel
theorem dX10_count_65 : decode cX10_count 65 = .ok (.getfield 253, 3) := by decide +kernel
theorem dX10_count_68 : decode cX10_count 68 = .ok (.ireturn, 1) := by decide +kernel
theorem dX10_count_69 : decode cX10_count 69 = .ok (.iconst (-1), 1) := by decide +kernel
theorem dX10_count_70 : decode cX10_count 70 = .ok (.ireturn, 1) := by decide +kernel
theorem dJ6_compare_7cf53_0 : decode cJ6_compare_7cf53 0 = .ok (.iload_n 0, 1) := by decide +kernel
theorem dJ6_compare_7cf53_1 : decode cJ6_compare_7cf53 1 = .ok (.iload_n 1, 1) := by decide +kernel
theorem dJ6_compare_7cf53_2 : decode cJ6_compare_7cf53 2 = .ok (.if_icmp .ge 7, 3) := by decide +kernel
theorem dJ6_compare_7cf53_5 : decode cJ6_compare_7cf53 5 = .ok (.iconst (-1), 1) := by decide +kernel
theorem dJ6_compare_7cf53_6 : decode cJ6_compare_7cf53 6 = .ok (.goto 13, 3) := by decide +kernel
theorem dJ6_compare_7cf53_9 : decode cJ6_compare_7cf53 9 = .ok (.iload_n 0, 1) := by decide +kernel
theorem dJ6_compare_7cf53_10 : decode cJ6_compare_7cf53 10 = .ok (.iload_n 1, 1) := by decide +kernel
theorem dJ6_compare_7cf53_11 : decode cJ6_compare_7cf53 11 = .ok (.if_icmp .ne 7, 3) := by decide +kernel
theorem dJ6_compare_7cf53_14 : decode cJ6_compare_7cf53 14 = .ok (.iconst 0, 1) := by decide +kernel
theorem dJ6_compare_7cf53_15 : decode cJ6_compare_7cf53 15 = .ok (.goto 4, 3) := by decide +kernel
theorem dJ6_compare_7cf53_18 : decode cJ6_compare_7cf53 18 = .ok (.iconst 1, 1) := by decide +kernel
theorem dJ6_compare_7cf53_19 : decode cJ6_compare_7cf53 19 = .ok (.ireturn, 1) := by decide +kernel
theorem dJ6_bitCount_0f7a4_0 : decode cJ6_bitCount_0f7a4 0 = .ok (.iload_n 0, 1) := by decide +kernel
theorem dJ6_bitCount_0f7a4_1 : decode cJ6_bitCount_0f7a4 1 = .ok (.iload_n 0, 1) := by decide +kernel
theorem dJ6_bitCount_0f7a4_2 : decode cJ6_bitCount_0f7a4 2 = .ok (.iconst 1, 1) := by decide +kernel
theorem dJ6_bitCount_0f7a4_3 : decode cJ6_bitCount_0f7a4 3 = .ok (.iushr, 1) := by decide +kernel
theorem dJ6_bitCount_0f7a4_4 : decode cJ6_bitCount_0f7a4 4 = .ok (.ldc_w 265, 3) := by decide +kernel
theorem dJ6_bitCount_0f7a4_7 : decode cJ6_bitCount_0f7a4 7 = .ok (.iand, 1) := by decide +kernel
theorem dJ6_bitCount_0f7a4_8 : decode cJ6_bitCount_0f7a4 8 = .ok (.isub, 1) := by decide +kernel
theorem dJ6_bitCount_0f7a4_9 : decode cJ6_bitCount_0f7a4 9 = .ok (.istore_n 0, 1) := by decide +kernel
theorem dJ6_bitCount_0f7a4_10 : decode cJ6_bitCount_0f7a4 10 = .ok (.iload_n 0, 1) := by decide +kernel
theorem dJ6_bitCount_0f7a4_11 : decode cJ6_bitCount_0f7a4 11 = .ok (.ldc_w 266, 3) := by decide +kernel
theorem dJ6_bitCount_0f7a4_14 : decode cJ6_bitCount_0f7a4 14 = .ok (.iand, 1) := by decide +kernel
theorem dJ6_bitCount_0f7a4_15 : decode cJ6_bitCount_0f7a4 15 = .ok (.iload_n 0, 1) := by decide +kernel
theorem dJ6_bitCount_0f7a4_16 : decode cJ6_bitCount_0f7a4 16 = .ok (.iconst 2, 1) := by decide +kernel
theorem dJ6_bitCount_0f7a4_17 : decode cJ6_bitCount_0f7a4 17 = .ok (.iushr, 1) := by decide +kernel
theorem dJ6_bitCount_0f7a4_18 : decode cJ6_bitCount_0f7a4 18 = .ok (.ldc_w 266, 3) := by decide +kernel
theorem dJ6_bitCount_0f7a4_21 : decode cJ6_bitCount_0f7a4 21 = .ok (.iand, 1) := by decide +kernel
theorem dJ6_bitCount_0f7a4_22 : decode cJ6_bitCount_0f7a4 22 = .ok (.iadd, 1) := by decide +kernel
theorem dJ6_bitCount_0f7a4_23 : decode cJ6_bitCount_0f7a4 23 = .ok (.istore_n 0, 1) := by decide +kernel
theorem dJ6_bitCount_0f7a4_24 : decode cJ6_bitCount_0f7a4 24 = .ok (.iload_n 0, 1) := by decide +kernel
theorem dJ6_bitCount_0f7a4_25 : decode cJ6_bitCount_0f7a4 25 = .ok (.iload_n 0, 1) := by decide +kernel
theorem dJ6_bitCount_0f7a4_26 : decode cJ6_bitCount_0f7a4 26 = .ok (.iconst 4, 1) := by decide +kernel
theorem dJ6_bitCount_0f7a4_27 : decode cJ6_bitCount_0f7a4 27 = .ok (.iushr, 1) := by decide +kernel
theorem dJ6_bitCount_0f7a4_28 : decode cJ6_bitCount_0f7a4 28 = .ok (.iadd, 1) := by decide +kernel
theorem dJ6_bitCount_0f7a4_29 : decode cJ6_bitCount_0f7a4 29 = .ok (.ldc_w 267, 3) := by decide +kernel
theorem dJ6_bitCount_0f7a4_32 : decode cJ6_bitCount_0f7a4 32 = .ok (.iand, 1) := by decide +kernel
theorem dJ6_bitCount_0f7a4_33 : decode cJ6_bitCount_0f7a4 33 = .ok (.istore_n 0, 1) := by decide +kernel
theorem dJ6_bitCount_0f7a4_34 : decode cJ6_bitCount_0f7a4 34 = .ok (.iload_n 0, 1) := by decide +kernel
theorem dJ6_bitCount_0f7a4_35 : decode cJ6_bitCount_0f7a4 35 = .ok (.iload_n 0, 1) := by decide +kernel
theorem dJ6_bitCount_0f7a4_36 : decode cJ6_bitCount_0f7a4 36 = .ok (.bipush 8, 2) := by decide +kernel
theorem dJ6_bitCount_0f7a4_38 : decode cJ6_bitCount_0f7a4 38 = .ok (.iushr, 1) := by decide +kernel
theorem dJ6_bitCount_0f7a4_39 : decode cJ6_bitCount_0f7a4 39 = .ok (.iadd, 1) := by decide +kernel
theorem dJ6_bitCount_0f7a4_40 : decode cJ6_bitCount_0f7a4 40 = .ok (.istore_n 0, 1) := by decide +kernel
theorem dJ6_bitCount_0f7a4_41 : decode cJ6_bitCount_0f7a4 41 = .ok (.iload_n 0, 1) := by decide +kernel
theorem dJ6_bitCount_0f7a4_42 : decode cJ6_bitCount_0f7a4 42 = .ok (.iload_n 0, 1) := by decide +kernel
theorem dJ6_bitCount_0f7a4_43 : decode cJ6_bitCount_0f7a4 43 = .ok (.bipush 16, 2) := by decide +kernel
theorem dJ6_bitCount_0f7a4_45 : decode cJ6_bitCount_0f7a4 45 = .ok (.iushr, 1) := by decide +kernel
theorem dJ6_bitCount_0f7a4_46 : decode cJ6_bitCount_0f7a4 46 = .ok (.iadd, 1) := by decide +kernel
theorem dJ6_bitCount_0f7a4_47 : decode cJ6_bitCount_0f7a4 47 = .ok (.istore_n 0, 1) := by decide +kernel
theorem dJ6_bitCount_0f7a4_48 : decode cJ6_bitCount_0f7a4 48 = .ok (.iload_n 0, 1) := by decide +kernel
theorem dJ6_bitCount_0f7a4_49 : decode cJ6_bitCount_0f7a4 49 = .ok (.bipush 63, 2) := by decide +kernel
theorem dJ6_bitCount_0f7a4_51 : decode cJ6_bitCount_0f7a4 51 = .ok (.iand, 1) := by decide +kernel
theorem dJ6_bitCount_0f7a4_52 : decode cJ6_bitCount_0f7a4 52 = .ok (.ireturn, 1) := by decide +kernel
theorem dJ13_bitCount_95d88_0 : decode cJ13_bitCount_95d88 0 = .ok (.lload_n 0, 1) := by decide +kernel
theorem dJ13_bitCount_95d88_1 : decode cJ13_bitCount_95d88 1 = .ok (.lload_n 0, 1) := by decide +kernel
theorem dJ13_bitCount_95d88_2 : decode cJ13_bitCount_95d88 2 = .ok (.iconst 1, 1) := by decide +kernel
theorem dJ13_bitCount_95d88_3 : decode cJ13_bitCount_95d88 3 = .ok (.lushr, 1) := by decide +kernel
theorem dJ13_bitCount_95d88_4 : decode cJ13_bitCount_95d88 4 = .ok (.ldc2_w 314, 3) := by decide +kernel
theorem dJ13_bitCount_95d88_7 : decode cJ13_bitCount_95d88 7 = .ok (.land, 1) := by decide +kernel
theorem dJ13_bitCount_95d88_8 : decode cJ13_bitCount_95d88 8 = .ok (.lsub, 1) := by decide +kernel
theorem dJ13_bitCount_95d88_9 : decode cJ13_bitCount_95d88 9 = .ok (.lstore_n 0, 1) := by decide +kernel
theorem dJ13_bitCount_95d88_10 : decode cJ13_bitCount_95d88 10 = .ok (.lload_n 0, 1) := by decide +kernel
theorem dJ13_bitCount_95d88_11 : decode cJ13_bitCount_95d88 11 = .ok (.ldc2_w 316, 3) := by decide +kernel
theorem dJ13_bitCount_95d88_14 : decode cJ13_bitCount_95d88 14 = .ok (.land, 1) := by decide +kernel
theorem dJ13_bitCount_95d88_15 : decode cJ13_bitCount_95d88 15 = .ok (.lload_n 0, 1) := by decide +kernel
theorem dJ13_bitCount_95d88_16 : decode cJ13_bitCount_95d88 16 = .ok (.iconst 2, 1) := by decide +kernel
theorem dJ13_bitCount_95d88_17 : decode cJ13_bitCount_95d88 17 = .ok (.lushr, 1) := by decide +kernel
theorem dJ13_bitCount_95d88_18 : decode cJ13_bitCount_95d88 18 = .ok (.ldc2_w 316, 3) := by decide +kernel
theorem dJ13_bitCount_95d88_21 : decode cJ13_bitCount_95d88 21 = .ok (.land, 1) := by decide +kernel
theorem dJ13_bitCount_95d88_22 : decode cJ13_bitCount_95d88 22 = .ok (.ladd, 1) := by decide +kernel
theorem dJ13_bitCount_95d88_23 : decode cJ13_bitCount_95d88 23 = .ok (.lstore_n 0, 1) := by decide +kernel
theorem dJ13_bitCount_95d88_24 : decode cJ13_bitCount_95d88 24 = .ok (.lload_n 0, 1) := by decide +kernel
theorem dJ13_bitCount_95d88_25 : decode cJ13_bitCount_95d88 25 = .ok (.lload_n 0, 1) := by decide +kernel
theorem dJ13_bitCount_95d88_26 : decode cJ13_bitCount_95d88 26 = .ok (.iconst 4, 1) := by decide +kernel
theorem dJ13_bitCount_95d88_27 : decode cJ13_bitCount_95d88 27 = .ok (.lushr, 1) := by decide +kernel
theorem dJ13_bitCount_95d88_28 : decode cJ13_bitCount_95d88 28 = .ok (.ladd, 1) := by decide +kernel
theorem dJ13_bitCount_95d88_29 : decode cJ13_bitCount_95d88 29 = .ok (.ldc2_w 318, 3) := by decide +kernel
theorem dJ13_bitCount_95d88_32 : decode cJ13_bitCount_95d88 32 = .ok (.land, 1) := by decide +kernel
theorem dJ13_bitCount_95d88_33 : decode cJ13_bitCount_95d88 33 = .ok (.lstore_n 0, 1) := by decide +kernel
theorem dJ13_bitCount_95d88_34 : decode cJ13_bitCount_95d88 34 = .ok (.lload_n 0, 1) := by decide +kernel
theorem dJ13_bitCount_95d88_35 : decode cJ13_bitCount_95d88 35 = .ok (.lload_n 0, 1) := by decide +kernel
theorem dJ13_bitCount_95d88_36 : decode cJ13_bitCount_95d88 36 = .ok (.bipush 8, 2) := by decide +kernel
theorem dJ13_bitCount_95d88_38 : decode cJ13_bitCount_95d88 38 = .ok (.lushr, 1) := by decide +kernel
theorem dJ13_bitCount_95d88_39 : decode cJ13_bitCount_95d88 39 = .ok (.ladd, 1) := by decide +kernel
theorem dJ13_bitCount_95d88_40 : decode cJ13_bitCount_95d88 40 = .ok (.lstore_n 0, 1) := by decide +kernel
theorem dJ13_bitCount_95d88_41 : decode cJ13_bitCount_95d88 41 = .ok (.lload_n 0, 1) := by decide +kernel
theorem dJ13_bitCount_95d88_42 : decode cJ13_bitCount_95d88 42 = .ok (.lload_n 0, 1) := by decide +kernel
theorem dJ13_bitCount_95d88_43 : decode cJ13_bitCount_95d88 43 = .ok (.bipush 16, 2) := by decide +kernel
theorem dJ13_bitCount_95d88_45 : decode cJ13_bitCount_95d88 45 = .ok (.lushr, 1) := by decide +kernel
theorem dJ13_bitCount_95d88_46 : decode cJ13_bitCount_95d88 46 = .ok (.ladd, 1) := by decide +kernel
theorem dJ13_bitCount_95d88_47 : decode cJ13_bitCount_95d88 47 = .ok (.lstore_n 0, 1) := by decide +kernel
theorem dJ13_bitCount_95d88_48 : decode cJ13_bitCount_95d88 48 = .ok (.lload_n 0, 1) := by decide +kernel
theorem dJ13_bitCount_95d88_49 : decode cJ13_bitCount_95d88 49 = .ok (.lload_n 0, 1) := by decide +kernel
theorem dJ13_bitCount_95d88_50 : decode cJ13_bitCount_95d88 50 = .ok (.bipush 32, 2) := by decide +kernel
theorem dJ13_bitCount_95d88_52 : decode cJ13_bitCount_95d88 52 = .ok (.lushr, 1) := by decide +kernel
theorem dJ13_bitCount_95d88_53 : decode cJ13_bitCount_95d88 53 = .ok (.ladd, 1) := by decide +kernel
theorem dJ13_bitCount_95d88_54 : decode cJ13_bitCount_95d88 54 = .ok (.lstore_n 0, 1) := by decide +kernel
theorem dJ13_bitCount_95d88_55 : decode cJ13_bitCount_95d88 55 = .ok (.lload_n 0, 1) := by decide +kernel
theorem dJ13_bitCount_95d88_56 : decode cJ13_bitCount_95d88 56 = .ok (.l2i, 1) := by decide +kernel
theorem dJ13_bitCount_95d88_57 : decode cJ13_bitCount_95d88 57 = .ok (.bipush 127, 2) := by decide +kernel
theorem dJ13_bitCount_95d88_59 : decode cJ13_bitCount_95d88 59 = .ok (.iand, 1) := by decide +kernel
theorem dJ13_bitCount_95d88_60 : decode cJ13_bitCount_95d88 60 = .ok (.ireturn, 1) := by decide +kernel
theorem dJ9_abs_0f7a4_0 : decode cJ9_abs_0f7a4 0 = .ok (.iload_n 0, 1) := by decide +kernel
theorem dJ9_abs_0f7a4_1 : decode cJ9_abs_0f7a4 1 = .ok (.ifCond .ge 8, 3) := by decide +kernel
theorem dJ9_abs_0f7a4_4 : decode cJ9_abs_0f7a4 4 = .ok (.iload_n 0, 1) := by decide +kernel
theorem dJ9_abs_0f7a4_5 : decode cJ9_abs_0f7a4 5 = .ok (.ineg, 1) := by decide +kernel
theorem dJ9_abs_0f7a4_6 : decode cJ9_abs_0f7a4 6 = .ok (.goto 4, 3) := by decide +kernel
theorem dJ9_abs_0f7a4_9 : decode cJ9_abs_0f7a4 9 = .ok (.iload_n 0, 1) := by decide +kernel
theorem dJ9_abs_0f7a4_10 : decode cJ9_abs_0f7a4 10 = .ok (.ireturn, 1) := by decide +kernel
theorem dJ9_max_7cf53_0 : decode cJ9_max_7cf53 0 = .ok (.iload_n 0, 1) := by decide +kernel
theorem dJ9_max_7cf53_1 : decode cJ9_max_7cf53 1 = .ok (.iload_n 1, 1) := by decide +kernel
theorem dJ9_max_7cf53_2 : decode cJ9_max_7cf53 2 = .ok (.if_icmp .lt 7, 3) := by decide +kernel
theorem dJ9_max_7cf53_5 : decode cJ9_max_7cf53 5 = .ok (.iload_n 0, 1) := by decide +kernel
theorem dJ9_max_7cf53_6 : decode cJ9_max_7cf53 6 = .ok (.goto 4, 3) := by decide +kernel
theorem dJ9_max_7cf53_9 : decode cJ9_max_7cf53 9 = .ok (.iload_n 1, 1) := by decide +kernel
theorem dJ9_max_7cf53_10 : decode cJ9_max_7cf53 10 = .ok (.ireturn, 1) := by decide +kernel
theorem dJ9_min_7cf53_0 : decode cJ9_min_7cf53 0 = .ok (.iload_n 0, 1) := by decide +kernel
theorem dJ9_min_7cf53_1 : decode cJ9_min_7cf53 1 = .ok (.iload_n 1, 1) := by decide +kernel
theorem dJ9_min_7cf53_2 : decode cJ9_min_7cf53 2 = .ok (.if_icmp .gt 7, 3) := by decide +kernel
theorem dJ9_min_7cf53_5 : decode cJ9_min_7cf53 5 = .ok (.iload_n 0, 1) := by decide +kernel
theorem dJ9_min_7cf53_6 : decode cJ9_min_7cf53 6 = .ok (.goto 4, 3) := by decide +kernel
theorem dJ9_min_7cf53_9 : decode cJ9_min_7cf53 9 = .ok (.iload_n 1, 1) := by decide +kernel
theorem dJ9_min_7cf53_10 : decode cJ9_min_7cf53 10 = .ok (.ireturn, 1) := by decide +kernel
theorem dJ0_length_8abf5_0 : decode cJ0_length_8abf5 0 = .ok (.aload_n 0, 1) := by decide +kernel
theorem dJ0_length_8abf5_1 : decode cJ0_length_8abf5 1 = .ok (.getfield 9, 3) := by decide +kernel
theorem dJ0_length_8abf5_4 : decode cJ0_length_8abf5 4 = .ok (.arraylength, 1) := by decide +kernel
theorem dJ0_length_8abf5_5 : decode cJ0_length_8abf5 5 = .ok (.aload_n 0, 1) := by decide +kernel
theorem dJ0_length_8abf5_6 : decode cJ0_length_8abf5 6 = .ok (.invokevirtual 335, 3) := by decide +kernel
theorem dJ0_length_8abf5_9 : decode cJ0_length_8abf5 9 = .ok (.ishr, 1) := by decide +kernel
theorem dJ0_length_8abf5_10 : decode cJ0_length_8abf5 10 = .ok (.ireturn, 1) := by decide +kernel
theorem dJ0_charAt_5068e_0 : decode cJ0_charAt_5068e 0 = .ok (.aload_n 0, 1) := by decide +kernel
theorem dJ0_charAt_5068e_1 : decode cJ0_charAt_5068e 1 = .ok (.invokevirtual 492, 3) := by decide +kernel
theorem dJ0_charAt_5068e_4 : decode cJ0_charAt_5068e 4 = .ok (.ifCond .eq 12, 3) := by decide +kernel
theorem dJ0_charAt_5068e_7 : decode cJ0_charAt_5068e 7 = .ok (.aload_n 0, 1) := by decide +kernel
theorem dJ0_charAt_5068e_8 : decode cJ0_charAt_5068e 8 = .ok (.getfield 9, 3) := by decide +kernel
theorem dJ0_charAt_5068e_11 : decode cJ0_charAt_5068e 11 = .ok (.iload_n 1, 1) := by decide +kernel
theorem dJ0_charAt_5068e_12 : decode cJ0_charAt_5068e 12 = .ok (.invokestatic 495, 3) := by decide +kernel
theorem dJ0_charAt_5068e_15 : decode cJ0_charAt_5068e 15 = .ok (.ireturn, 1) := by decide +kernel
theorem dJ0_charAt_5068e_16 : decode cJ0_charAt_5068e 16 = .ok (.aload_n 0, 1) := by decide +kernel
theorem dJ0_charAt_5068e_17 : decode cJ0_charAt_5068e 17 = .ok (.getfield 9, 3) := by decide +kernel
theorem dJ0_charAt_5068e_20 : decode cJ0_charAt_5068e 20 = .ok (.iload_n 1, 1) := by decide +kernel
theorem dJ0_charAt_5068e_21 : decode cJ0_charAt_5068e 21 = .ok (.invokestatic 498, 3) := by decide +kernel
theorem dJ0_charAt_5068e_24 : decode cJ0_charAt_5068e 24 = .ok (.ireturn, 1) := by decide +kernel
theorem dJ0_coder_7d493_0 : decode cJ0_coder_7d493 0 = .ok (.getstatic 38, 3) := by decide +kernel
theorem dJ0_coder_7d493_3 : decode cJ0_coder_7d493 3 = .ok (.ifCond .eq 10, 3) := by decide +kernel
theorem dJ0_coder_7d493_6 : decode cJ0_coder_7d493 6 = .ok (.aload_n 0, 1) := by decide +kernel
theorem dJ0_coder_7d493_7 : decode cJ0_coder_7d493 7 = .ok (.getfield 15, 3) := by decide +kernel
theorem dJ0_coder_7d493_10 : decode cJ0_coder_7d493 10 = .ok (.goto 4, 3) := by decide +kernel
theorem dJ0_coder_7d493_13 : decode cJ0_coder_7d493 13 = .ok (.iconst 1, 1) := by decide +kernel
theorem dJ0_coder_7d493_14 : decode cJ0_coder_7d493 14 = .ok (.ireturn, 1) := by decide +kernel
theorem dJ0_isLatin1_aae02_0 : decode cJ0_isLatin1_aae02 0 = .ok (.getstatic 38, 3) := by decide +kernel
theorem dJ0_isLatin1_aae02_3 : decode cJ0_isLatin1_aae02 3 = .ok (.ifCond .eq 14, 3) := by decide +kernel
theorem dJ0_isLatin1_aae02_6 : decode cJ0_isLatin1_aae02 6 = .ok (.aload_n 0, 1) := by decide +kernel
theorem dJ0_isLatin1_aae02_7 : decode cJ0_isLatin1_aae02 7 = .ok (.getfield 15, 3) := by decide +kernel
theorem dJ0_isLatin1_aae02_10 : decode cJ0_isLatin1_aae02 10 = .ok (.ifCond .ne 7, 3) := by decide +kernel
theorem dJ0_isLatin1_aae02_13 : decode cJ0_isLatin1_aae02 13 = .ok (.iconst 1, 1) := by decide +kernel
theorem dJ0_isLatin1_aae02_14 : decode cJ0_isLatin1_aae02 14 = .ok (.goto 4, 3) := by decide +kernel
theorem dJ0_isLatin1_aae02_17 : decode cJ0_isLatin1_aae02 17 = .ok (.iconst 0, 1) := by decide +kernel
theorem dJ0_isLatin1_aae02_18 : decode cJ0_isLatin1_aae02 18 = .ok (.ireturn, 1) := by decide +kernel
theorem dJ0_checkIndex_df160_0 : decode cJ0_checkIndex_df160 0 = .ok (.iload_n 0, 1) := by decide +kernel
theorem dJ0_checkIndex_df160_1 : decode cJ0_checkIndex_df160 1 = .ok (.iload_n 1, 1) := by decide +kernel
theorem dJ0_checkIndex_df160_2 : decode cJ0_checkIndex_df160 2 = .ok (.getstatic 1053, 3) := by decide +kernel
theorem dJ0_checkIndex_df160_5 : decode cJ0_checkIndex_df160 5 = .ok (.invokestatic 1059, 3) := by decide +kernel
theorem dJ0_checkIndex_df160_8 : decode cJ0_checkIndex_df160 8 = .ok (.pop, 1) := by decide +kernel
theorem dJ0_checkIndex_df160_9 : decode cJ0_checkIndex_df160 9 = .ok (.return_, 1) := by decide +kernel
theorem dJ1_charAt_3b067_0 : decode cJ1_charAt_3b067 0 = .ok (.iload_n 1, 1) := by decide +kernel
theorem dJ1_charAt_3b067_1 : decode cJ1_charAt_3b067 1 = .ok (.aload_n 0, 1) := by decide +kernel
theorem dJ1_charAt_3b067_2 : decode cJ1_charAt_3b067 2 = .ok (.arraylength, 1) := by decide +kernel
theorem dJ1_charAt_3b067_3 : decode cJ1_charAt_3b067 3 = .ok (.invokestatic 9, 3) := by decide +kernel
theorem dJ1_charAt_3b067_6 : decode cJ1_charAt_3b067 6 = .ok (.aload_n 0, 1) := by decide +kernel
theorem dJ1_charAt_3b067_7 : decode cJ1_charAt_3b067 7 = .ok (.iload_n 1, 1) := by decide +kernel
theorem dJ1_charAt_3b067_8 : decode cJ1_charAt_3b067 8 = .ok (.baload, 1) := by decide +kernel
theorem dJ1_charAt_3b067_9 : decode cJ1_charAt_3b067 9 = .ok (.sipush 255, 3) := by decide +kernel
theorem dJ1_charAt_3b067_12 : decode cJ1_charAt_3b067 12 = .ok (.iand, 1) := by decide +kernel
theorem dJ1_charAt_3b067_13 : decode cJ1_charAt_3b067 13 = .ok (.i2c, 1) := by decide +kernel
theorem dJ1_charAt_3b067_14 : decode cJ1_charAt_3b067 14 = .ok (.ireturn, 1) := by decide +kernel
theorem dJ2_getChar_3b067_0 : decode cJ2_getChar_3b067 0 = .ok (.getstatic 44, 3) := by decide +kernel
theorem dJ2_getChar_3b067_3 : decode cJ2_getChar_3b067 3 = .ok (.ifCond .ne 25, 3) := by decide +kernel
theorem dJ2_getChar_3b067_6 : decode cJ2_getChar_3b067 6 = .ok (.iload_n 1, 1) := by decide +kernel
theorem dJ2_getChar_3b067_7 : decode cJ2_getChar_3b067 7 = .ok (.ifCond .lt 11, 3) := by decide +kernel
theorem dJ2_getChar_3b067_10 : decode cJ2_getChar_3b067 10 = .ok (.iload_n 1, 1) := by decide +kernel
theorem dJ2_getChar_3b067_11 : decode cJ2_getChar_3b067 11 = .ok (.aload_n 0, 1) := by decide +kernel
theorem dJ2_getChar_3b067_12 : decode cJ2_getChar_3b067 12 = .ok (.invokestatic 48, 3) := by decide +kernel
theorem dJ2_getChar_3b067_15 : decode cJ2_getChar_3b067 15 = .ok (.if_icmp .lt 13, 3) := by decide +kernel
theorem dJ2_getChar_3b067_18 : decode cJ2_getChar_3b067 18 = .ok (.new 52, 3) := by decide +kernel
theorem dJ2_getChar_3b067_21 : decode cJ2_getChar_3b067 21 = .ok (.dup, 1) := by decide +kernel
theorem dJ2_getChar_3b067_22 : decode cJ2_getChar_3b067 22 = .ok (.ldc 54, 2) := by decide +kernel
theorem dJ2_getChar_3b067_24 : decode cJ2_getChar_3b067 24 = .ok (.invokespecial 56, 3) := by decide +kernel
theorem dJ2_getChar_3b067_27 : decode cJ2_getChar_3b067 27 = .ok (.athrow, 1) := by decide +kernel
theorem dJ2_getChar_3b067_28 : decode cJ2_getChar_3b067 28 = .ok (.iload_n 1, 1) := by decide +kernel
theorem dJ2_getChar_3b067_29 : decode cJ2_getChar_3b067 29 = .ok (.iconst 1, 1) := by decide +kernel
theorem dJ2_getChar_3b067_30 : decode cJ2_getChar_3b067 30 = .ok (.ishl, 1) := by decide +kernel
theorem dJ2_getChar_3b067_31 : decode cJ2_getChar_3b067 31 = .ok (.istore_n 1, 1) := by decide +kernel
theorem dJ2_getChar_3b067_32 : decode cJ2_getChar_3b067 32 = .ok (.aload_n 0, 1) := by decide +kernel
theorem dJ2_getChar_3b067_33 : decode cJ2_getChar_3b067 33 = .ok (.iload_n 1, 1) := by decide +kernel
theorem dJ2_getChar_3b067_34 : decode cJ2_getChar_3b067 34 = .ok (.iinc 1 1, 3) := by decide +kernel
theorem dJ2_getChar_3b067_37 : decode cJ2_getChar_3b067 37 = .ok (.baload, 1) := by decide +kernel
theorem dJ2_getChar_3b067_38 : decode cJ2_getChar_3b067 38 = .ok (.sipush 255, 3) := by decide +kernel
theorem dJ2_getChar_3b067_41 : decode cJ2_getChar_3b067 41 = .ok (.iand, 1) := by decide +kernel
theorem dJ2_getChar_3b067_42 : decode cJ2_getChar_3b067 42 = .ok (.getstatic 59, 3) := by decide +kernel
theorem dJ2_getChar_3b067_45 : decode cJ2_getChar_3b067 45 = .ok (.ishl, 1) := by decide +kernel
theorem dJ2_getChar_3b067_46 : decode cJ2_getChar_3b067 46 = .ok (.aload_n 0, 1) := by decide +kernel
theorem dJ2_getChar_3b067_47 : decode cJ2_getChar_3b067 47 = .ok (.iload_n 1, 1) := by decide +kernel
theorem dJ2_getChar_3b067_48 : decode cJ2_getChar_3b067 48 = .ok (.baload, 1) := by decide +kernel
theorem dJ2_getChar_3b067_49 : decode cJ2_getChar_3b067 49 = .ok (.sipush 255, 3) := by decide +kernel
theorem dJ2_getChar_3b067_52 : decode cJ2_getChar_3b067 52 = .ok (.iand, 1) := by decide +kernel
theorem dJ2_getChar_3b067_53 : decode cJ2_getChar_3b067 53 = .ok (.getstatic 63, 3) := by decide +kernel
theorem dJ2_getChar_3b067_56 : decode cJ2_getChar_3b067 56 = .ok (.ishl, 1) := by decide +kernel
theorem dJ2_getChar_3b067_57 : decode cJ2_getChar_3b067 57 = .ok (.ior, 1) := by decide +kernel
theorem dJ2_getChar_3b067_58 : decode cJ2_getChar_3b067 58 = .ok (.i2c, 1) := by decide +kernel
theorem dJ2_getChar_3b067_59 : decode cJ2_getChar_3b067 59 = .ok (.ireturn, 1) := by decide +kernel
theorem dJ2_length_9d52b_0 : decode cJ2_length_9d52b 0 = .ok (.aload_n 0, 1) := by decide +kernel
theorem dJ2_length_9d52b_1 : decode cJ2_length_9d52b 1 = .ok (.arraylength, 1) := by decide +kernel
theorem dJ2_length_9d52b_2 : decode cJ2_length_9d52b 2 = .ok (.iconst 1, 1) := by decide +kernel
theorem dJ2_length_9d52b_3 : decode cJ2_length_9d52b 3 = .ok (.ishr, 1) := by decide +kernel
theorem dJ2_length_9d52b_4 : decode cJ2_length_9d52b 4 = .ok (.ireturn, 1) := by decide +kernel
theorem dJ2_charAt_3b067_0 : decode cJ2_charAt_3b067 0 = .ok (.iload_n 1, 1) := by decide +kernel
theorem dJ2_charAt_3b067_1 : decode cJ2_charAt_3b067 1 = .ok (.aload_n 0, 1) := by decide +kernel
theorem dJ2_charAt_3b067_2 : decode cJ2_charAt_3b067 2 = .ok (.invokestatic 67, 3) := by decide +kernel
theorem dJ2_charAt_3b067_5 : decode cJ2_charAt_3b067 5 = .ok (.aload_n 0, 1) := by decide +kernel
theorem dJ2_charAt_3b067_6 : decode cJ2_charAt_3b067 6 = .ok (.iload_n 1, 1) := by decide +kernel
theorem dJ2_charAt_3b067_7 : decode cJ2_charAt_3b067 7 = .ok (.invokestatic 71, 3) := by decide +kernel
theorem dJ2_charAt_3b067_10 : decode cJ2_charAt_3b067 10 = .ok (.ireturn, 1) := by decide +kernel
theorem dJ2_checkIndex_2214a_0 : decode cJ2_checkIndex_2214a 0 = .ok (.iload_n 0, 1) := by decide +kernel
theorem dJ2_checkIndex_2214a_1 : decode cJ2_checkIndex_2214a 1 = .ok (.aload_n 1, 1) := by decide +kernel
theorem dJ2_checkIndex_2214a_2 : decode cJ2_checkIndex_2214a 2 = .ok (.invokestatic 48, 3) := by decide +kernel
theorem dJ2_checkIndex_2214a_5 : decode cJ2_checkIndex_2214a 5 = .ok (.invokestatic 414, 3) := by decide +kernel
theorem dJ2_checkIndex_2214a_8 : decode cJ2_checkIndex_2214a 8 = .ok (.return_, 1) := by decide +kernel
theorem dJ3_checkIndex_8e157_0 : decode cJ3_checkIndex_8e157 0 = .ok (.iload_n 0, 1) := by decide +kernel
theorem dJ3_checkIndex_8e157_1 : decode cJ3_checkIndex_8e157 1 = .ok (.ifCond .lt 8, 3) := by decide +kernel
theorem dJ3_checkIndex_8e157_4 : decode cJ3_checkIndex_8e157 4 = .ok (.iload_n 0, 1) := by decide +kernel
theorem dJ3_checkIndex_8e157_5 : decode cJ3_checkIndex_8e157 5 = .ok (.iload_n 1, 1) := by decide +kernel
theorem dJ3_checkIndex_8e157_6 : decode cJ3_checkIndex_8e157 6 = .ok (.if_icmp .lt 10, 3) := by decide +kernel
theorem dJ3_checkIndex_8e157_9 : decode cJ3_checkIndex_8e157 9 = .ok (.aload_n 2, 1) := by decide +kernel
theorem dJ3_checkIndex_8e157_10 : decode cJ3_checkIndex_8e157 10 = .ok (.iload_n 0, 1) := by decide +kernel
theorem dJ3_checkIndex_8e157_11 : decode cJ3_checkIndex_8e157 11 = .ok (.iload_n 1, 1) := by decide +kernel
theorem dJ3_checkIndex_8e157_12 : decode cJ3_checkIndex_8e157 12 = .ok (.invokestatic 95, 3) := by decide +kernel
theorem dJ3_checkIndex_8e157_15 : decode cJ3_checkIndex_8e157 15 = .ok (.athrow, 1) := by decide +kernel
theorem dJ3_checkIndex_8e157_16 : decode cJ3_checkIndex_8e157 16 = .ok (.iload_n 0, 1) := by decide +kernel
theorem dJ3_checkIndex_8e157_17 : decode cJ3_checkIndex_8e157 17 = .ok (.ireturn, 1) := by decide +kernel
theorem dL_law_0 : decode cL_law 0 = .ok (.new 7, 3) := by decide +kernel
theorem dL_law_3 : decode cL_law 3 = .ok (.dup, 1) := by decide +kernel
theorem dL_law_4 : decode cL_law 4 = .ok (.invokespecial 9, 3) := by decide +kernel
theorem dL_law_7 : decode cL_law 7 = .ok (.astore_n 1, 1) := by decide +kernel
theorem dL_law_8 : decode cL_law 8 = .ok (.new 10, 3) := by decide +kernel
theorem dL_law_11 : decode cL_law 11 = .ok (.dup, 1) := by decide +kernel
theorem dL_law_12 : decode cL_law 12 = .ok (.invokespecial 12, 3) := by decide +kernel
theorem dL_law_15 : decode cL_law 15 = .ok (.astore_n 2, 1) := by decide +kernel
theorem dL_law_16 : decode cL_law 16 = .ok (.iconst 0, 1) := by decide +kernel
theorem dL_law_17 : decode cL_law 17 = .ok (.istore_n 3, 1) := by decide +kernel
theorem dL_law_18 : decode cL_law 18 = .ok (.iload_n 3, 1) := by decide +kernel
theorem dL_law_19 : decode cL_law 19 = .ok (.aload_n 0, 1) := by decide +kernel
theorem dL_law_20 : decode cL_law 20 = .ok (.arraylength, 1) := by decide +kernel
theorem dL_law_21 : decode cL_law 21 = .ok (.iconst 5, 1) := by decide +kernel
theorem dL_law_22 : decode cL_law 22 = .ok (.isub, 1) := by decide +kernel
theorem dL_law_23 : decode cL_law 23 = .ok (.if_icmp .gt 1105, 3) := by decide +kernel
theorem dL_law_26 : decode cL_law 26 = .ok (.aload_n 0, 1) := by decide +kernel
theorem dL_law_27 : decode cL_law 27 = .ok (.iload_n 3, 1) := by decide +kernel
theorem dL_law_28 : decode cL_law 28 = .ok (.iaload, 1) := by decide +kernel
theorem dL_law_29 : decode cL_law 29 = .ok (.bipush 31, 2) := by decide +kernel
theorem dL_law_31 : decode cL_law 31 = .ok (.iand, 1) := by decide +kernel
theorem dL_law_32 : decode cL_law 32 = .ok (.tableswitch 1090 0 30 #[140, 203, 266, 279, 302, 325, 378, 411, 460, 503, 546, 579, 602, 645, 658, 681, 714, 737, 750, 783, 816, 850, 873, 906, 919, 942, 985, 1008, 1041, 1054, 1067], 140) := by decide +kernel
theorem dL_law_172 : decode cL_law 172 = .ok (.aload_n 1, 1) := by decide +kernel
theorem dL_law_173 : decode cL_law 173 = .ok (.aload_n 0, 1) := by decide +kernel
theorem dL_law_174 : decode cL_law 174 = .ok (.iload_n 3, 1) := by decide +kernel
theorem dL_law_175 : decode cL_law 175 = .ok (.iconst 1, 1) := by decide +kernel
theorem dL_law_176 : decode cL_law 176 = .ok (.iadd, 1) := by decide +kernel
theorem dL_law_177 : decode cL_law 177 = .ok (.iaload, 1) := by decide +kernel
theorem dL_law_178 : decode cL_law 178 = .ok (.aload_n 0, 1) := by decide +kernel
theorem dL_law_179 : decode cL_law 179 = .ok (.iload_n 3, 1) := by decide +kernel
theorem dL_law_180 : decode cL_law 180 = .ok (.iconst 2, 1) := by decide +kernel
theorem dL_law_181 : decode cL_law 181 = .ok (.iadd, 1) := by decide +kernel
theorem dL_law_182 : decode cL_law 182 = .ok (.iaload, 1) := by decide +kernel
theorem dL_law_183 : decode cL_law 183 = .ok (.i2l, 1) := by decide +kernel
theorem dL_law_184 : decode cL_law 184 = .ok (.bipush 32, 2) := by decide +kernel
theorem dL_law_186 : decode cL_law 186 = .ok (.lshl, 1) := by decide +kernel
theorem dL_law_187 : decode cL_law 187 = .ok (.aload_n 0, 1) := by decide +kernel
theorem dL_law_188 : decode cL_law 188 = .ok (.iload_n 3, 1) := by decide +kernel
theorem dL_law_189 : decode cL_law 189 = .ok (.iconst 3, 1) := by decide +kernel
theorem dL_law_190 : decode cL_law 190 = .ok (.iadd, 1) := by decide +kernel
theorem dL_law_191 : decode cL_law 191 = .ok (.iaload, 1) := by decide +kernel
theorem dL_law_192 : decode cL_law 192 = .ok (.i2l, 1) := by decide +kernel
theorem dL_law_193 : decode cL_law 193 = .ok (.ldc2_w 13, 3) := by decide +kernel
theorem dL_law_196 : decode cL_law 196 = .ok (.land, 1) := by decide +kernel
theorem dL_law_197 : decode cL_law 197 = .ok (.lor, 1) := by decide +kernel
theorem dL_law_198 : decode cL_law 198 = .ok (.invokevirtual 15, 3) := by decide +kernel
theorem dL_law_201 : decode cL_law 201 = .ok (.aload_n 2, 1) := by decide +kernel
theorem dL_law_202 : decode cL_law 202 = .ok (.aload_n 0, 1) := by decide +kernel
theorem dL_law_203 : decode cL_law 203 = .ok (.iload_n 3, 1) := by decide +kernel
theorem dL_law_204 : decode cL_law 204 = .ok (.iconst 1, 1) := by decide +kernel
theorem dL_law_205 : decode cL_law 205 = .ok (.iadd, 1) := by decide +kernel
theorem dL_law_206 : decode cL_law 206 = .ok (.iaload, 1) := by decide +kernel
theorem dL_law_207 : decode cL_law 207 = .ok (.aload_n 0, 1) := by decide +kernel
theorem dL_law_208 : decode cL_law 208 = .ok (.iload_n 3, 1) := by decide +kernel
theorem dL_law_209 : decode cL_law 209 = .ok (.iconst 2, 1) := by decide +kernel
theorem dL_law_210 : decode cL_law 210 = .ok (.iadd, 1) := by decide +kernel
theorem dL_law_211 : decode cL_law 211 = .ok (.iaload, 1) := by decide +kernel
theorem dL_law_212 : decode cL_law 212 = .ok (.i2l, 1) := by decide +kernel
theorem dL_law_213 : decode cL_law 213 = .ok (.bipush 32, 2) := by decide +kernel
theorem dL_law_215 : decode cL_law 215 = .ok (.lshl, 1) := by decide +kernel
theorem dL_law_216 : decode cL_law 216 = .ok (.aload_n 0, 1) := by decide +kernel
theorem dL_law_217 : decode cL_law 217 = .ok (.iload_n 3, 1) := by decide +kernel
theorem dL_law_218 : decode cL_law 218 = .ok (.iconst 3, 1) := by decide +kernel
theorem dL_law_219 : decode cL_law 219 = .ok (.iadd, 1) := by decide +kernel
theorem dL_law_220 : decode cL_law 220 = .ok (.iaload, 1) := by decide +kernel
theorem dL_law_221 : decode cL_law 221 = .ok (.i2l, 1) := by decide +kernel
theorem dL_law_222 : decode cL_law 222 = .ok (.ldc2_w 13, 3) := by decide +kernel
theorem dL_law_225 : decode cL_law 225 = .ok (.land, 1) := by decide +kernel
theorem dL_law_226 : decode cL_law 226 = .ok (.lor, 1) := by decide +kernel
theorem dL_law_227 : decode cL_law 227 = .ok (.invokevirtual 19, 3) := by decide +kernel
theorem dL_law_230 : decode cL_law 230 = .ok (.if_icmp .eq 892, 3) := by decide +kernel
theorem dL_law_233 : decode cL_law 233 = .ok (.iconst 0, 1) := by decide +kernel
theorem dL_law_234 : decode cL_law 234 = .ok (.ireturn, 1) := by decide +kernel
theorem dL_law_235 : decode cL_law 235 = .ok (.aload_n 1, 1) := by decide +kernel
theorem dL_law_236 : decode cL_law 236 = .ok (.aload_n 0, 1) := by decide +kernel
theorem dL_law_237 : decode cL_law 237 = .ok (.iload_n 3, 1) := by decide +kernel
theorem dL_law_238 : decode cL_law 238 = .ok (.iconst 1, 1) := by decide +kernel
theorem dL_law_239 : decode cL_law 239 = .ok (.iadd, 1) := by decide +kernel
theorem dL_law_240 : decode cL_law 240 = .ok (.iaload, 1) := by decide +kernel
theorem dL_law_241 : decode cL_law 241 = .ok (.i2l, 1) := by decide +kernel
theorem dL_law_242 : decode cL_law 242 = .ok (.bipush 32, 2) := by decide +kernel
theorem dL_law_244 : decode cL_law 244 = .ok (.lshl, 1) := by decide +kernel
theorem dL_law_245 : decode cL_law 245 = .ok (.aload_n 0, 1) := by decide +kernel
theorem dL_law_246 : decode cL_law 246 = .ok (.iload_n 3, 1) := by decide +kernel
theorem dL_law_247 : decode cL_law 247 = .ok (.iconst 2, 1) := by decide +kernel
theorem dL_law_248 : decode cL_law 248 = .ok (.iadd, 1) := by decide +kernel
theorem dL_law_249 : decode cL_law 249 = .ok (.iaload, 1) := by decide +kernel
theorem dL_law_250 : decode cL_law 250 = .ok (.i2l, 1) := by decide +kernel
theorem dL_law_251 : decode cL_law 251 = .ok (.ldc2_w 13, 3) := by decide +kernel
theorem dL_law_254 : decode cL_law 254 = .ok (.land, 1) := by decide +kernel
theorem dL_law_255 : decode cL_law 255 = .ok (.lor, 1) := by decide +kernel
theorem dL_law_256 : decode cL_law 256 = .ok (.aload_n 0, 1) := by decide +kernel
theorem dL_law_257 : decode cL_law 257 = .ok (.iload_n 3, 1) := by decide +kernel
theorem dL_law_258 : decode cL_law 258 = .ok (.iconst 3, 1) := by decide +kernel
theorem dL_law_259 : decode cL_law 259 = .ok (.iadd, 1) := by decide +kernel
theorem dL_law_260 : decode cL_law 260 = .ok (.iaload, 1) := by decide +kernel
theorem dL_law_261 : decode cL_law 261 = .ok (.invokevirtual 20, 3) := by decide +kernel
theorem dL_law_264 : decode cL_law 264 = .ok (.aload_n 2, 1) := by decide +kernel
theorem dL_law_265 : decode cL_law 265 = .ok (.aload_n 0, 1) := by decide +kernel
theorem dL_law_266 : decode cL_law 266 = .ok (.iload_n 3, 1) := by decide +kernel
theorem dL_law_267 : decode cL_law 267 = .ok (.iconst 1, 1) := by decide +kernel
theorem dL_law_268 : decode cL_law 268 = .ok (.iadd, 1) := by decide +kernel
theorem dL_law_269 : decode cL_law 269 = .ok (.iaload, 1) := by decide +kernel
theorem dL_law_270 : decode cL_law 270 = .ok (.i2l, 1) := by decide +kernel
theorem dL_law_271 : decode cL_law 271 = .ok (.bipush 32, 2) := by decide +kernel
theorem dL_law_273 : decode cL_law 273 = .ok (.lshl, 1) := by decide +kernel
theorem dL_law_274 : decode cL_law 274 = .ok (.aload_n 0, 1) := by decide +kernel
theorem dL_law_275 : decode cL_law 275 = .ok (.iload_n 3, 1) := by decide +kernel
theorem dL_law_276 : decode cL_law 276 = .ok (.iconst 2, 1) := by decide +kernel
theorem dL_law_277 : decode cL_law 277 = .ok (.iadd, 1) := by decide +kernel
theorem dL_law_278 : decode cL_law 278 = .ok (.iaload, 1) := by decide +kernel
theorem dL_law_279 : decode cL_law 279 = .ok (.i2l, 1) := by decide +kernel
theorem dL_law_280 : decode cL_law 280 = .ok (.ldc2_w 13, 3) := by decide +kernel
theorem dL_law_283 : decode cL_law 283 = .ok (.land, 1) := by decide +kernel
theorem dL_law_284 : decode cL_law 284 = .ok (.lor, 1) := by decide +kernel
theorem dL_law_285 : decode cL_law 285 = .ok (.aload_n 0, 1) := by decide +kernel
theorem dL_law_286 : decode cL_law 286 = .ok (.iload_n 3, 1) := by decide +kernel
theorem dL_law_287 : decode cL_law 287 = .ok (.iconst 3, 1) := by decide +kernel
theorem dL_law_288 : decode cL_law 288 = .ok (.iadd, 1) := by decide +kernel
theorem dL_law_289 : decode cL_law 289 = .ok (.iaload, 1) := by decide +kernel
theorem dL_law_290 : decode cL_law 290 = .ok (.invokevirtual 24, 3) := by decide +kernel
theorem dL_law_293 : decode cL_law 293 = .ok (.if_icmp .eq 829, 3) := by decide +kernel
theorem dL_law_296 : decode cL_law 296 = .ok (.iconst 0, 1) := by decide +kernel
theorem dL_law_297 : decode cL_law 297 = .ok (.ireturn, 1) := by decide +kernel
theorem dL_law_298 : decode cL_law 298 = .ok (.aload_n 1, 1) := by decide +kernel
theorem dL_law_299 : decode cL_law 299 = .ok (.invokevirtual 25, 3) := by decide +kernel
theorem dL_law_302 : decode cL_law 302 = .ok (.aload_n 2, 1) := by decide +kernel
theorem dL_law_303 : decode cL_law 303 = .ok (.invokevirtual 29, 3) := by decide +kernel
theorem dL_law_306 : decode cL_law 306 = .ok (.if_icmp .eq 816, 3) := by decide +kernel
theorem dL_law_309 : decode cL_law 309 = .ok (.iconst 0, 1) := by decide +kernel
theorem dL_law_310 : decode cL_law 310 = .ok (.ireturn, 1) := by decide +kernel
theorem dL_law_311 : decode cL_law 311 = .ok (.aload_n 1, 1) := by decide +kernel
theorem dL_law_312 : decode cL_law 312 = .ok (.aload_n 0, 1) := by decide +kernel
theorem dL_law_313 : decode cL_law 313 = .ok (.iload_n 3, 1) := by decide +kernel
theorem dL_law_314 : decode cL_law 314 = .ok (.iconst 1, 1) := by decide +kernel
theorem dL_law_315 : decode cL_law 315 = .ok (.iadd, 1) := by decide +kernel
theorem dL_law_316 : decode cL_law 316 = .ok (.iaload, 1) := by decide +kernel
theorem dL_law_317 : decode cL_law 317 = .ok (.invokevirtual 30, 3) := by decide +kernel
theorem dL_law_320 : decode cL_law 320 = .ok (.aload_n 2, 1) := by decide +kernel
theorem dL_law_321 : decode cL_law 321 = .ok (.aload_n 0, 1) := by decide +kernel
theorem dL_law_322 : decode cL_law 322 = .ok (.iload_n 3, 1) := by decide +kernel
theorem dL_law_323 : decode cL_law 323 = .ok (.iconst 1, 1) := by decide +kernel
theorem dL_law_324 : decode cL_law 324 = .ok (.iadd, 1) := by decide +kernel
theorem dL_law_325 : decode cL_law 325 = .ok (.iaload, 1) := by decide +kernel
theorem dL_law_326 : decode cL_law 326 = .ok (.invokevirtual 34, 3) := by decide +kernel
theorem dL_law_329 : decode cL_law 329 = .ok (.if_icmp .eq 793, 3) := by decide +kernel
theorem dL_law_332 : decode cL_law 332 = .ok (.iconst 0, 1) := by decide +kernel
theorem dL_law_333 : decode cL_law 333 = .ok (.ireturn, 1) := by decide +kernel
theorem dL_law_334 : decode cL_law 334 = .ok (.aload_n 1, 1) := by decide +kernel
theorem dL_law_335 : decode cL_law 335 = .ok (.aload_n 0, 1) := by decide +kernel
theorem dL_law_336 : decode cL_law 336 = .ok (.iload_n 3, 1) := by decide +kernel
theorem dL_law_337 : decode cL_law 337 = .ok (.iconst 1, 1) := by decide +kernel
theorem dL_law_338 : decode cL_law 338 = .ok (.iadd, 1) := by decide +kernel
theorem dL_law_339 : decode cL_law 339 = .ok (.iaload, 1) := by decide +kernel
theorem dL_law_340 : decode cL_law 340 = .ok (.invokevirtual 35, 3) := by decide +kernel
theorem dL_law_343 : decode cL_law 343 = .ok (.aload_n 2, 1) := by decide +kernel
theorem dL_law_344 : decode cL_law 344 = .ok (.aload_n 0, 1) := by decide +kernel
theorem dL_law_345 : decode cL_law 345 = .ok (.iload_n 3, 1) := by decide +kernel
theorem dL_law_346 : decode cL_law 346 = .ok (.iconst 1, 1) := by decide +kernel
theorem dL_law_347 : decode cL_law 347 = .ok (.iadd, 1) := by decide +kernel
theorem dL_law_348 : decode cL_law 348 = .ok (.iaload, 1) := by decide +kernel
theorem dL_law_349 : decode cL_law 349 = .ok (.invokevirtual 38, 3) := by decide +kernel
theorem dL_law_352 : decode cL_law 352 = .ok (.if_icmp .eq 770, 3) := by decide +kernel
theorem dL_law_355 : decode cL_law 355 = .ok (.iconst 0, 1) := by decide +kernel
theorem dL_law_356 : decode cL_law 356 = .ok (.ireturn, 1) := by decide +kernel
theorem dL_law_357 : decode cL_law 357 = .ok (.aload_n 1, 1) := by decide +kernel
theorem dL_law_358 : decode cL_law 358 = .ok (.aload_n 0, 1) := by decide +kernel
theorem dL_law_359 : decode cL_law 359 = .ok (.iload_n 3, 1) := by decide +kernel
theorem dL_law_360 : decode cL_law 360 = .ok (.iconst 1, 1) := by decide +kernel
theorem dL_law_361 : decode cL_law 361 = .ok (.iadd, 1) := by decide +kernel
theorem dL_law_362 : decode cL_law 362 = .ok (.iaload, 1) := by decide +kernel
theorem dL_law_363 : decode cL_law 363 = .ok (.aload_n 0, 1) := by decide +kernel
theorem dL_law_364 : decode cL_law 364 = .ok (.iload_n 3, 1) := by decide +kernel
theorem dL_law_365 : decode cL_law 365 = .ok (.iconst 2, 1) := by decide +kernel
theorem dL_law_366 : decode cL_law 366 = .ok (.iadd, 1) := by decide +kernel
theorem dL_law_367 : decode cL_law 367 = .ok (.iaload, 1) := by decide +kernel
theorem dL_law_368 : decode cL_law 368 = .ok (.aload_n 0, 1) := by decide +kernel
theorem dL_law_369 : decode cL_law 369 = .ok (.iload_n 3, 1) := by decide +kernel
theorem dL_law_370 : decode cL_law 370 = .ok (.iconst 3, 1) := by decide +kernel
theorem dL_law_371 : decode cL_law 371 = .ok (.iadd, 1) := by decide +kernel
theorem dL_law_372 : decode cL_law 372 = .ok (.iaload, 1) := by decide +kernel
theorem dL_law_373 : decode cL_law 373 = .ok (.aload_n 0, 1) := by decide +kernel
theorem dL_law_374 : decode cL_law 374 = .ok (.iload_n 3, 1) := by decide +kernel
theorem dL_law_375 : decode cL_law 375 = .ok (.iconst 4, 1) := by decide +kernel
theorem dL_law_376 : decode cL_law 376 = .ok (.iadd, 1) := by decide +kernel
theorem dL_law_377 : decode cL_law 377 = .ok (.iaload, 1) := by decide +kernel
theorem dL_law_378 : decode cL_law 378 = .ok (.invokevirtual 39, 3) := by decide +kernel
theorem dL_law_381 : decode cL_law 381 = .ok (.aload_n 2, 1) := by decide +kernel
theorem dL_law_382 : decode cL_law 382 = .ok (.aload_n 0, 1) := by decide +kernel
theorem dL_law_383 : decode cL_law 383 = .ok (.iload_n 3, 1) := by decide +kernel
theorem dL_law_384 : decode cL_law 384 = .ok (.iconst 1, 1) := by decide +kernel
theorem dL_law_385 : decode cL_law 385 = .ok (.iadd, 1) := by decide +kernel
theorem dL_law_386 : decode cL_law 386 = .ok (.iaload, 1) := by decide +kernel
theorem dL_law_387 : decode cL_law 387 = .ok (.aload_n 0, 1) := by decide +kernel
theorem dL_law_388 : decode cL_law 388 = .ok (.iload_n 3, 1) := by decide +kernel
theorem dL_law_389 : decode cL_law 389 = .ok (.iconst 2, 1) := by decide +kernel
theorem dL_law_390 : decode cL_law 390 = .ok (.iadd, 1) := by decide +kernel
theorem dL_law_391 : decode cL_law 391 = .ok (.iaload, 1) := by decide +kernel
theorem dL_law_392 : decode cL_law 392 = .ok (.aload_n 0, 1) := by decide +kernel
theorem dL_law_393 : decode cL_law 393 = .ok (.iload_n 3, 1) := by decide +kernel
theorem dL_law_394 : decode cL_law 394 = .ok (.iconst 3, 1) := by decide +kernel
theorem dL_law_395 : decode cL_law 395 = .ok (.iadd, 1) := by decide +kernel
theorem dL_law_396 : decode cL_law 396 = .ok (.iaload, 1) := by decide +kernel
theorem dL_law_397 : decode cL_law 397 = .ok (.aload_n 0, 1) := by decide +kernel
theorem dL_law_398 : decode cL_law 398 = .ok (.iload_n 3, 1) := by decide +kernel
theorem dL_law_399 : decode cL_law 399 = .ok (.iconst 4, 1) := by decide +kernel
theorem dL_law_400 : decode cL_law 400 = .ok (.iadd, 1) := by decide +kernel
theorem dL_law_401 : decode cL_law 401 = .ok (.iaload, 1) := by decide +kernel
theorem dL_law_402 : decode cL_law 402 = .ok (.invokevirtual 43, 3) := by decide +kernel
theorem dL_law_405 : decode cL_law 405 = .ok (.if_icmp .eq 717, 3) := by decide +kernel
theorem dL_law_408 : decode cL_law 408 = .ok (.iconst 0, 1) := by decide +kernel
theorem dL_law_409 : decode cL_law 409 = .ok (.ireturn, 1) := by decide +kernel
theorem dL_law_410 : decode cL_law 410 = .ok (.aload_n 1, 1) := by decide +kernel
theorem dL_law_411 : decode cL_law 411 = .ok (.aload_n 0, 1) := by decide +kernel
theorem dL_law_412 : decode cL_law 412 = .ok (.iload_n 3, 1) := by decide +kernel
theorem dL_law_413 : decode cL_law 413 = .ok (.iconst 1, 1) := by decide +kernel
theorem dL_law_414 : decode cL_law 414 = .ok (.iadd, 1) := by decide +kernel
theorem dL_law_415 : decode cL_law 415 = .ok (.iaload, 1) := by decide +kernel
theorem dL_law_416 : decode cL_law 416 = .ok (.aload_n 0, 1) := by decide +kernel
theorem dL_law_417 : decode cL_law 417 = .ok (.iload_n 3, 1) := by decide +kernel
theorem dL_law_418 : decode cL_law 418 = .ok (.iconst 2, 1) := by decide +kernel
theorem dL_law_419 : decode cL_law 419 = .ok (.iadd, 1) := by decide +kernel
theorem dL_law_420 : decode cL_law 420 = .ok (.iaload, 1) := by decide +kernel
theorem dL_law_421 : decode cL_law 421 = .ok (.invokevirtual 44, 3) := by decide +kernel
theorem dL_law_424 : decode cL_law 424 = .ok (.aload_n 2, 1) := by decide +kernel
theorem dL_law_425 : decode cL_law 425 = .ok (.aload_n 0, 1) := by decide +kernel
theorem dL_law_426 : decode cL_law 426 = .ok (.iload_n 3, 1) := by decide +kernel
theorem dL_law_427 : decode cL_law 427 = .ok (.iconst 1, 1) := by decide +kernel
theorem dL_law_428 : decode cL_law 428 = .ok (.iadd, 1) := by decide +kernel
theorem dL_law_429 : decode cL_law 429 = .ok (.iaload, 1) := by decide +kernel
theorem dL_law_430 : decode cL_law 430 = .ok (.aload_n 0, 1) := by decide +kernel
theorem dL_law_431 : decode cL_law 431 = .ok (.iload_n 3, 1) := by decide +kernel
theorem dL_law_432 : decode cL_law 432 = .ok (.iconst 2, 1) := by decide +kernel
theorem dL_law_433 : decode cL_law 433 = .ok (.iadd, 1) := by decide +kernel
theorem dL_law_434 : decode cL_law 434 = .ok (.iaload, 1) := by decide +kernel
theorem dL_law_435 : decode cL_law 435 = .ok (.invokevirtual 48, 3) := by decide +kernel
theorem dL_law_438 : decode cL_law 438 = .ok (.if_icmp .eq 684, 3) := by decide +kernel
theorem dL_law_441 : decode cL_law 441 = .ok (.iconst 0, 1) := by decide +kernel
theorem dL_law_442 : decode cL_law 442 = .ok (.ireturn, 1) := by decide +kernel
theorem dL_law_443 : decode cL_law 443 = .ok (.aload_n 1, 1) := by decide +kernel
theorem dL_law_444 : decode cL_law 444 = .ok (.aload_n 0, 1) := by decide +kernel
theorem dL_law_445 : decode cL_law 445 = .ok (.iload_n 3, 1) := by decide +kernel
theorem dL_law_446 : decode cL_law 446 = .ok (.iconst 1, 1) := by decide +kernel
theorem dL_law_447 : decode cL_law 447 = .ok (.iadd, 1) := by decide +kernel
theorem dL_law_448 : decode cL_law 448 = .ok (.iaload, 1) := by decide +kernel
theorem dL_law_449 : decode cL_law 449 = .ok (.aload_n 0, 1) := by decide +kernel
theorem dL_law_450 : decode cL_law 450 = .ok (.iload_n 3, 1) := by decide +kernel
theorem dL_law_451 : decode cL_law 451 = .ok (.iconst 2, 1) := by decide +kernel
theorem dL_law_452 : decode cL_law 452 = .ok (.iadd, 1) := by decide +kernel
theorem dL_law_453 : decode cL_law 453 = .ok (.iaload, 1) := by decide +kernel
theorem dL_law_454 : decode cL_law 454 = .ok (.ifCond .eq 7, 3) := by decide +kernel
theorem dL_law_457 : decode cL_law 457 = .ok (.iconst 1, 1) := by decide +kernel
theorem dL_law_458 : decode cL_law 458 = .ok (.goto 4, 3) := by decide +kernel
theorem dL_law_461 : decode cL_law 461 = .ok (.iconst 0, 1) := by decide +kernel
theorem dL_law_462 : decode cL_law 462 = .ok (.invokevirtual 49, 3) := by decide +kernel
theorem dL_law_465 : decode cL_law 465 = .ok (.aload_n 2, 1) := by decide +kernel
theorem dL_law_466 : decode cL_law 466 = .ok (.aload_n 0, 1) := by decide +kernel
theorem dL_law_467 : decode cL_law 467 = .ok (.iload_n 3, 1) := by decide +kernel
theorem dL_law_468 : decode cL_law 468 = .ok (.iconst 1, 1) := by decide +kernel
theorem dL_law_469 : decode cL_law 469 = .ok (.iadd, 1) := by decide +kernel
theorem dL_law_470 : decode cL_law 470 = .ok (.iaload, 1) := by decide +kernel
theorem dL_law_471 : decode cL_law 471 = .ok (.aload_n 0, 1) := by decide +kernel
theorem dL_law_472 : decode cL_law 472 = .ok (.iload_n 3, 1) := by decide +kernel
theorem dL_law_473 : decode cL_law 473 = .ok (.iconst 2, 1) := by decide +kernel
theorem dL_law_474 : decode cL_law 474 = .ok (.iadd, 1) := by decide +kernel
theorem dL_law_475 : decode cL_law 475 = .ok (.iaload, 1) := by decide +kernel
theorem dL_law_476 : decode cL_law 476 = .ok (.ifCond .eq 7, 3) := by decide +kernel
theorem dL_law_479 : decode cL_law 479 = .ok (.iconst 1, 1) := by decide +kernel
theorem dL_law_480 : decode cL_law 480 = .ok (.goto 4, 3) := by decide +kernel
theorem dL_law_483 : decode cL_law 483 = .ok (.iconst 0, 1) := by decide +kernel
theorem dL_law_484 : decode cL_law 484 = .ok (.invokevirtual 53, 3) := by decide +kernel
theorem dL_law_487 : decode cL_law 487 = .ok (.if_icmp .eq 635, 3) := by decide +kernel
theorem dL_law_490 : decode cL_law 490 = .ok (.iconst 0, 1) := by decide +kernel
theorem dL_law_491 : decode cL_law 491 = .ok (.ireturn, 1) := by decide +kernel
theorem dL_law_492 : decode cL_law 492 = .ok (.aload_n 1, 1) := by decide +kernel
theorem dL_law_493 : decode cL_law 493 = .ok (.aload_n 0, 1) := by decide +kernel
theorem dL_law_494 : decode cL_law 494 = .ok (.iload_n 3, 1) := by decide +kernel
theorem dL_law_495 : decode cL_law 495 = .ok (.iconst 1, 1) := by decide +kernel
theorem dL_law_496 : decode cL_law 496 = .ok (.iadd, 1) := by decide +kernel
theorem dL_law_497 : decode cL_law 497 = .ok (.iaload, 1) := by decide +kernel
theorem dL_law_498 : decode cL_law 498 = .ok (.aload_n 0, 1) := by decide +kernel
theorem dL_law_499 : decode cL_law 499 = .ok (.iload_n 3, 1) := by decide +kernel
theorem dL_law_500 : decode cL_law 500 = .ok (.iconst 2, 1) := by decide +kernel
theorem dL_law_501 : decode cL_law 501 = .ok (.iadd, 1) := by decide +kernel
theorem dL_law_502 : decode cL_law 502 = .ok (.iaload, 1) := by decide +kernel
theorem dL_law_503 : decode cL_law 503 = .ok (.aload_n 0, 1) := by decide +kernel
theorem dL_law_504 : decode cL_law 504 = .ok (.iload_n 3, 1) := by decide +kernel
theorem dL_law_505 : decode cL_law 505 = .ok (.iconst 3, 1) := by decide +kernel
theorem dL_law_506 : decode cL_law 506 = .ok (.iadd, 1) := by decide +kernel
theorem dL_law_507 : decode cL_law 507 = .ok (.iaload, 1) := by decide +kernel
theorem dL_law_508 : decode cL_law 508 = .ok (.invokevirtual 54, 3) := by decide +kernel
theorem dL_law_511 : decode cL_law 511 = .ok (.aload_n 2, 1) := by decide +kernel
theorem dL_law_512 : decode cL_law 512 = .ok (.aload_n 0, 1) := by decide +kernel
theorem dL_law_513 : decode cL_law 513 = .ok (.iload_n 3, 1) := by decide +kernel
theorem dL_law_514 : decode cL_law 514 = .ok (.iconst 1, 1) := by decide +kernel
theorem dL_law_515 : decode cL_law 515 = .ok (.iadd, 1) := by decide +kernel
theorem dL_law_516 : decode cL_law 516 = .ok (.iaload, 1) := by decide +kernel
theorem dL_law_517 : decode cL_law 517 = .ok (.aload_n 0, 1) := by decide +kernel
theorem dL_law_518 : decode cL_law 518 = .ok (.iload_n 3, 1) := by decide +kernel
theorem dL_law_519 : decode cL_law 519 = .ok (.iconst 2, 1) := by decide +kernel
theorem dL_law_520 : decode cL_law 520 = .ok (.iadd, 1) := by decide +kernel
theorem dL_law_521 : decode cL_law 521 = .ok (.iaload, 1) := by decide +kernel
theorem dL_law_522 : decode cL_law 522 = .ok (.aload_n 0, 1) := by decide +kernel
theorem dL_law_523 : decode cL_law 523 = .ok (.iload_n 3, 1) := by decide +kernel
theorem dL_law_524 : decode cL_law 524 = .ok (.iconst 3, 1) := by decide +kernel
theorem dL_law_525 : decode cL_law 525 = .ok (.iadd, 1) := by decide +kernel
theorem dL_law_526 : decode cL_law 526 = .ok (.iaload, 1) := by decide +kernel
theorem dL_law_527 : decode cL_law 527 = .ok (.invokevirtual 58, 3) := by decide +kernel
theorem dL_law_530 : decode cL_law 530 = .ok (.if_icmp .eq 592, 3) := by decide +kernel
theorem dL_law_533 : decode cL_law 533 = .ok (.iconst 0, 1) := by decide +kernel
theorem dL_law_534 : decode cL_law 534 = .ok (.ireturn, 1) := by decide +kernel
theorem dL_law_535 : decode cL_law 535 = .ok (.aload_n 1, 1) := by decide +kernel
theorem dL_law_536 : decode cL_law 536 = .ok (.aload_n 0, 1) := by decide +kernel
theorem dL_law_537 : decode cL_law 537 = .ok (.iload_n 3, 1) := by decide +kernel
theorem dL_law_538 : decode cL_law 538 = .ok (.iconst 1, 1) := by decide +kernel
theorem dL_law_539 : decode cL_law 539 = .ok (.iadd, 1) := by decide +kernel
theorem dL_law_540 : decode cL_law 540 = .ok (.iaload, 1) := by decide +kernel
theorem dL_law_541 : decode cL_law 541 = .ok (.aload_n 0, 1) := by decide +kernel
theorem dL_law_542 : decode cL_law 542 = .ok (.iload_n 3, 1) := by decide +kernel
theorem dL_law_543 : decode cL_law 543 = .ok (.iconst 2, 1) := by decide +kernel
theorem dL_law_544 : decode cL_law 544 = .ok (.iadd, 1) := by decide +kernel
theorem dL_law_545 : decode cL_law 545 = .ok (.iaload, 1) := by decide +kernel
theorem dL_law_546 : decode cL_law 546 = .ok (.aload_n 0, 1) := by decide +kernel
theorem dL_law_547 : decode cL_law 547 = .ok (.iload_n 3, 1) := by decide +kernel
theorem dL_law_548 : decode cL_law 548 = .ok (.iconst 3, 1) := by decide +kernel
theorem dL_law_549 : decode cL_law 549 = .ok (.iadd, 1) := by decide +kernel
theorem dL_law_550 : decode cL_law 550 = .ok (.iaload, 1) := by decide +kernel
theorem dL_law_551 : decode cL_law 551 = .ok (.invokevirtual 59, 3) := by decide +kernel
theorem dL_law_554 : decode cL_law 554 = .ok (.aload_n 2, 1) := by decide +kernel
theorem dL_law_555 : decode cL_law 555 = .ok (.aload_n 0, 1) := by decide +kernel
theorem dL_law_556 : decode cL_law 556 = .ok (.iload_n 3, 1) := by decide +kernel
theorem dL_law_557 : decode cL_law 557 = .ok (.iconst 1, 1) := by decide +kernel
theorem dL_law_558 : decode cL_law 558 = .ok (.iadd, 1) := by decide +kernel
theorem dL_law_559 : decode cL_law 559 = .ok (.iaload, 1) := by decide +kernel
theorem dL_law_560 : decode cL_law 560 = .ok (.aload_n 0, 1) := by decide +kernel
theorem dL_law_561 : decode cL_law 561 = .ok (.iload_n 3, 1) := by decide +kernel
theorem dL_law_562 : decode cL_law 562 = .ok (.iconst 2, 1) := by decide +kernel
theorem dL_law_563 : decode cL_law 563 = .ok (.iadd, 1) := by decide +kernel
theorem dL_law_564 : decode cL_law 564 = .ok (.iaload, 1) := by decide +kernel
theorem dL_law_565 : decode cL_law 565 = .ok (.aload_n 0, 1) := by decide +kernel
theorem dL_law_566 : decode cL_law 566 = .ok (.iload_n 3, 1) := by decide +kernel
theorem dL_law_567 : decode cL_law 567 = .ok (.iconst 3, 1) := by decide +kernel
theorem dL_law_568 : decode cL_law 568 = .ok (.iadd, 1) := by decide +kernel
theorem dL_law_569 : decode cL_law 569 = .ok (.iaload, 1) := by decide +kernel
theorem dL_law_570 : decode cL_law 570 = .ok (.invokevirtual 62, 3) := by decide +kernel
theorem dL_law_573 : decode cL_law 573 = .ok (.if_icmp .eq 549, 3) := by decide +kernel
theorem dL_law_576 : decode cL_law 576 = .ok (.iconst 0, 1) := by decide +kernel
theorem dL_law_577 : decode cL_law 577 = .ok (.ireturn, 1) := by decide +kernel
theorem dL_law_578 : decode cL_law 578 = .ok (.aload_n 1, 1) := by decide +kernel
theorem dL_law_579 : decode cL_law 579 = .ok (.aload_n 0, 1) := by decide +kernel
theorem dL_law_580 : decode cL_law 580 = .ok (.iload_n 3, 1) := by decide +kernel
theorem dL_law_581 : decode cL_law 581 = .ok (.iconst 1, 1) := by decide +kernel
theorem dL_law_582 : decode cL_law 582 = .ok (.iadd, 1) := by decide +kernel
theorem dL_law_583 : decode cL_law 583 = .ok (.iaload, 1) := by decide +kernel
theorem dL_law_584 : decode cL_law 584 = .ok (.aload_n 0, 1) := by decide +kernel
theorem dL_law_585 : decode cL_law 585 = .ok (.iload_n 3, 1) := by decide +kernel
theorem dL_law_586 : decode cL_law 586 = .ok (.iconst 2, 1) := by decide +kernel
theorem dL_law_587 : decode cL_law 587 = .ok (.iadd, 1) := by decide +kernel
theorem dL_law_588 : decode cL_law 588 = .ok (.iaload, 1) := by decide +kernel
theorem dL_law_589 : decode cL_law 589 = .ok (.invokevirtual 63, 3) := by decide +kernel
theorem dL_law_592 : decode cL_law 592 = .ok (.aload_n 2, 1) := by decide +kernel
theorem dL_law_593 : decode cL_law 593 = .ok (.aload_n 0, 1) := by decide +kernel
theorem dL_law_594 : decode cL_law 594 = .ok (.iload_n 3, 1) := by decide +kernel
theorem dL_law_595 : decode cL_law 595 = .ok (.iconst 1, 1) := by decide +kernel
theorem dL_law_596 : decode cL_law 596 = .ok (.iadd, 1) := by decide +kernel
theorem dL_law_597 : decode cL_law 597 = .ok (.iaload, 1) := by decide +kernel
theorem dL_law_598 : decode cL_law 598 = .ok (.aload_n 0, 1) := by decide +kernel
theorem dL_law_599 : decode cL_law 599 = .ok (.iload_n 3, 1) := by decide +kernel
theorem dL_law_600 : decode cL_law 600 = .ok (.iconst 2, 1) := by decide +kernel
theorem dL_law_601 : decode cL_law 601 = .ok (.iadd, 1) := by decide +kernel
theorem dL_law_602 : decode cL_law 602 = .ok (.iaload, 1) := by decide +kernel
theorem dL_law_603 : decode cL_law 603 = .ok (.invokevirtual 66, 3) := by decide +kernel
theorem dL_law_606 : decode cL_law 606 = .ok (.if_icmp .eq 516, 3) := by decide +kernel
theorem dL_law_609 : decode cL_law 609 = .ok (.iconst 0, 1) := by decide +kernel
theorem dL_law_610 : decode cL_law 610 = .ok (.ireturn, 1) := by decide +kernel
theorem dL_law_611 : decode cL_law 611 = .ok (.aload_n 1, 1) := by decide +kernel
theorem dL_law_612 : decode cL_law 612 = .ok (.aload_n 0, 1) := by decide +kernel
theorem dL_law_613 : decode cL_law 613 = .ok (.iload_n 3, 1) := by decide +kernel
theorem dL_law_614 : decode cL_law 614 = .ok (.iconst 1, 1) := by decide +kernel
theorem dL_law_615 : decode cL_law 615 = .ok (.iadd, 1) := by decide +kernel
theorem dL_law_616 : decode cL_law 616 = .ok (.iaload, 1) := by decide +kernel
theorem dL_law_617 : decode cL_law 617 = .ok (.invokevirtual 67, 3) := by decide +kernel
theorem dL_law_620 : decode cL_law 620 = .ok (.aload_n 2, 1) := by decide +kernel
theorem dL_law_621 : decode cL_law 621 = .ok (.aload_n 0, 1) := by decide +kernel
theorem dL_law_622 : decode cL_law 622 = .ok (.iload_n 3, 1) := by decide +kernel
theorem dL_law_623 : decode cL_law 623 = .ok (.iconst 1, 1) := by decide +kernel
theorem dL_law_624 : decode cL_law 624 = .ok (.iadd, 1) := by decide +kernel
theorem dL_law_625 : decode cL_law 625 = .ok (.iaload, 1) := by decide +kernel
theorem dL_law_626 : decode cL_law 626 = .ok (.invokevirtual 70, 3) := by decide +kernel
theorem dL_law_629 : decode cL_law 629 = .ok (.if_icmp .eq 493, 3) := by decide +kernel
theorem dL_law_632 : decode cL_law 632 = .ok (.iconst 0, 1) := by decide +kernel
theorem dL_law_633 : decode cL_law 633 = .ok (.ireturn, 1) := by decide +kernel
theorem dL_law_634 : decode cL_law 634 = .ok (.aload_n 1, 1) := by decide +kernel
theorem dL_law_635 : decode cL_law 635 = .ok (.aload_n 0, 1) := by decide +kernel
theorem dL_law_636 : decode cL_law 636 = .ok (.iload_n 3, 1) := by decide +kernel
theorem dL_law_637 : decode cL_law 637 = .ok (.iconst 1, 1) := by decide +kernel
theorem dL_law_638 : decode cL_law 638 = .ok (.iadd, 1) := by decide +kernel
theorem dL_law_639 : decode cL_law 639 = .ok (.iaload, 1) := by decide +kernel
theorem dL_law_640 : decode cL_law 640 = .ok (.aload_n 0, 1) := by decide +kernel
theorem dL_law_641 : decode cL_law 641 = .ok (.iload_n 3, 1) := by decide +kernel
theorem dL_law_642 : decode cL_law 642 = .ok (.iconst 2, 1) := by decide +kernel
theorem dL_law_643 : decode cL_law 643 = .ok (.iadd, 1) := by decide +kernel
theorem dL_law_644 : decode cL_law 644 = .ok (.iaload, 1) := by decide +kernel
theorem dL_law_645 : decode cL_law 645 = .ok (.aload_n 0, 1) := by decide +kernel
theorem dL_law_646 : decode cL_law 646 = .ok (.iload_n 3, 1) := by decide +kernel
theorem dL_law_647 : decode cL_law 647 = .ok (.iconst 3, 1) := by decide +kernel
theorem dL_law_648 : decode cL_law 648 = .ok (.iadd, 1) := by decide +kernel
theorem dL_law_649 : decode cL_law 649 = .ok (.iaload, 1) := by decide +kernel
theorem dL_law_650 : decode cL_law 650 = .ok (.invokevirtual 71, 3) := by decide +kernel
theorem dL_law_653 : decode cL_law 653 = .ok (.aload_n 2, 1) := by decide +kernel
theorem dL_law_654 : decode cL_law 654 = .ok (.aload_n 0, 1) := by decide +kernel
theorem dL_law_655 : decode cL_law 655 = .ok (.iload_n 3, 1) := by decide +kernel
theorem dL_law_656 : decode cL_law 656 = .ok (.iconst 1, 1) := by decide +kernel
theorem dL_law_657 : decode cL_law 657 = .ok (.iadd, 1) := by decide +kernel
theorem dL_law_658 : decode cL_law 658 = .ok (.iaload, 1) := by decide +kernel
theorem dL_law_659 : decode cL_law 659 = .ok (.aload_n 0, 1) := by decide +kernel
theorem dL_law_660 : decode cL_law 660 = .ok (.iload_n 3, 1) := by decide +kernel
theorem dL_law_661 : decode cL_law 661 = .ok (.iconst 2, 1) := by decide +kernel
theorem dL_law_662 : decode cL_law 662 = .ok (.iadd, 1) := by decide +kernel
theorem dL_law_663 : decode cL_law 663 = .ok (.iaload, 1) := by decide +kernel
theorem dL_law_664 : decode cL_law 664 = .ok (.aload_n 0, 1) := by decide +kernel
theorem dL_law_665 : decode cL_law 665 = .ok (.iload_n 3, 1) := by decide +kernel
theorem dL_law_666 : decode cL_law 666 = .ok (.iconst 3, 1) := by decide +kernel
theorem dL_law_667 : decode cL_law 667 = .ok (.iadd, 1) := by decide +kernel
theorem dL_law_668 : decode cL_law 668 = .ok (.iaload, 1) := by decide +kernel
theorem dL_law_669 : decode cL_law 669 = .ok (.invokevirtual 74, 3) := by decide +kernel
theorem dL_law_672 : decode cL_law 672 = .ok (.if_icmp .eq 450, 3) := by decide +kernel
theorem dL_law_675 : decode cL_law 675 = .ok (.iconst 0, 1) := by decide +kernel
theorem dL_law_676 : decode cL_law 676 = .ok (.ireturn, 1) := by decide +kernel
theorem dL_law_677 : decode cL_law 677 = .ok (.aload_n 1, 1) := by decide +kernel
theorem dL_law_678 : decode cL_law 678 = .ok (.invokevirtual 75, 3) := by decide +kernel
theorem dL_law_681 : decode cL_law 681 = .ok (.aload_n 2, 1) := by decide +kernel
theorem dL_law_682 : decode cL_law 682 = .ok (.invokevirtual 78, 3) := by decide +kernel
theorem dL_law_685 : decode cL_law 685 = .ok (.if_icmp .eq 437, 3) := by decide +kernel
theorem dL_law_688 : decode cL_law 688 = .ok (.iconst 0, 1) := by decide +kernel
theorem dL_law_689 : decode cL_law 689 = .ok (.ireturn, 1) := by decide +kernel
theorem dL_law_690 : decode cL_law 690 = .ok (.aload_n 1, 1) := by decide +kernel
theorem dL_law_691 : decode cL_law 691 = .ok (.aload_n 0, 1) := by decide +kernel
theorem dL_law_692 : decode cL_law 692 = .ok (.iload_n 3, 1) := by decide +kernel
theorem dL_law_693 : decode cL_law 693 = .ok (.iconst 1, 1) := by decide +kernel
theorem dL_law_694 : decode cL_law 694 = .ok (.iadd, 1) := by decide +kernel
theorem dL_law_695 : decode cL_law 695 = .ok (.iaload, 1) := by decide +kernel
theorem dL_law_696 : decode cL_law 696 = .ok (.invokevirtual 79, 3) := by decide +kernel
theorem dL_law_699 : decode cL_law 699 = .ok (.aload_n 2, 1) := by decide +kernel
theorem dL_law_700 : decode cL_law 700 = .ok (.aload_n 0, 1) := by decide +kernel
theorem dL_law_701 : decode cL_law 701 = .ok (.iload_n 3, 1) := by decide +kernel
theorem dL_law_702 : decode cL_law 702 = .ok (.iconst 1, 1) := by decide +kernel
theorem dL_law_703 : decode cL_law 703 = .ok (.iadd, 1) := by decide +kernel
theorem dL_law_704 : decode cL_law 704 = .ok (.iaload, 1) := by decide +kernel
theorem dL_law_705 : decode cL_law 705 = .ok (.invokevirtual 82, 3) := by decide +kernel
theorem dL_law_708 : decode cL_law 708 = .ok (.if_icmp .eq 414, 3) := by decide +kernel
theorem dL_law_711 : decode cL_law 711 = .ok (.iconst 0, 1) := by decide +kernel
theorem dL_law_712 : decode cL_law 712 = .ok (.ireturn, 1) := by decide +kernel
theorem dL_law_713 : decode cL_law 713 = .ok (.aload_n 1, 1) := by decide +kernel
theorem dL_law_714 : decode cL_law 714 = .ok (.aload_n 0, 1) := by decide +kernel
theorem dL_law_715 : decode cL_law 715 = .ok (.iload_n 3, 1) := by decide +kernel
theorem dL_law_716 : decode cL_law 716 = .ok (.iconst 1, 1) := by decide +kernel
theorem dL_law_717 : decode cL_law 717 = .ok (.iadd, 1) := by decide +kernel
theorem dL_law_718 : decode cL_law 718 = .ok (.iaload, 1) := by decide +kernel
theorem dL_law_719 : decode cL_law 719 = .ok (.aload_n 0, 1) := by decide +kernel
theorem dL_law_720 : decode cL_law 720 = .ok (.iload_n 3, 1) := by decide +kernel
theorem dL_law_721 : decode cL_law 721 = .ok (.iconst 2, 1) := by decide +kernel
theorem dL_law_722 : decode cL_law 722 = .ok (.iadd, 1) := by decide +kernel
theorem dL_law_723 : decode cL_law 723 = .ok (.iaload, 1) := by decide +kernel
theorem dL_law_724 : decode cL_law 724 = .ok (.invokevirtual 83, 3) := by decide +kernel
theorem dL_law_727 : decode cL_law 727 = .ok (.aload_n 2, 1) := by decide +kernel
theorem dL_law_728 : decode cL_law 728 = .ok (.aload_n 0, 1) := by decide +kernel
theorem dL_law_729 : decode cL_law 729 = .ok (.iload_n 3, 1) := by decide +kernel
theorem dL_law_730 : decode cL_law 730 = .ok (.iconst 1, 1) := by decide +kernel
theorem dL_law_731 : decode cL_law 731 = .ok (.iadd, 1) := by decide +kernel
theorem dL_law_732 : decode cL_law 732 = .ok (.iaload, 1) := by decide +kernel
theorem dL_law_733 : decode cL_law 733 = .ok (.aload_n 0, 1) := by decide +kernel
theorem dL_law_734 : decode cL_law 734 = .ok (.iload_n 3, 1) := by decide +kernel
theorem dL_law_735 : decode cL_law 735 = .ok (.iconst 2, 1) := by decide +kernel
theorem dL_law_736 : decode cL_law 736 = .ok (.iadd, 1) := by decide +kernel
theorem dL_law_737 : decode cL_law 737 = .ok (.iaload, 1) := by decide +kernel
theorem dL_law_738 : decode cL_law 738 = .ok (.invokevirtual 86, 3) := by decide +kernel
theorem dL_law_741 : decode cL_law 741 = .ok (.if_icmp .eq 381, 3) := by decide +kernel
theorem dL_law_744 : decode cL_law 744 = .ok (.iconst 0, 1) := by decide +kernel
theorem dL_law_745 : decode cL_law 745 = .ok (.ireturn, 1) := by decide +kernel
theorem dL_law_746 : decode cL_law 746 = .ok (.aload_n 1, 1) := by decide +kernel
theorem dL_law_747 : decode cL_law 747 = .ok (.aload_n 0, 1) := by decide +kernel
theorem dL_law_748 : decode cL_law 748 = .ok (.iload_n 3, 1) := by decide +kernel
theorem dL_law_749 : decode cL_law 749 = .ok (.iconst 1, 1) := by decide +kernel
theorem dL_law_750 : decode cL_law 750 = .ok (.iadd, 1) := by decide +kernel
theorem dL_law_751 : decode cL_law 751 = .ok (.iaload, 1) := by decide +kernel
theorem dL_law_752 : decode cL_law 752 = .ok (.invokevirtual 87, 3) := by decide +kernel
theorem dL_law_755 : decode cL_law 755 = .ok (.aload_n 2, 1) := by decide +kernel
theorem dL_law_756 : decode cL_law 756 = .ok (.aload_n 0, 1) := by decide +kernel
theorem dL_law_757 : decode cL_law 757 = .ok (.iload_n 3, 1) := by decide +kernel
theorem dL_law_758 : decode cL_law 758 = .ok (.iconst 1, 1) := by decide +kernel
theorem dL_law_759 : decode cL_law 759 = .ok (.iadd, 1) := by decide +kernel
theorem dL_law_760 : decode cL_law 760 = .ok (.iaload, 1) := by decide +kernel
theorem dL_law_761 : decode cL_law 761 = .ok (.invokevirtual 90, 3) := by decide +kernel
theorem dL_law_764 : decode cL_law 764 = .ok (.if_icmp .eq 358, 3) := by decide +kernel
theorem dL_law_767 : decode cL_law 767 = .ok (.iconst 0, 1) := by decide +kernel
theorem dL_law_768 : decode cL_law 768 = .ok (.ireturn, 1) := by decide +kernel
theorem dL_law_769 : decode cL_law 769 = .ok (.aload_n 1, 1) := by decide +kernel
theorem dL_law_770 : decode cL_law 770 = .ok (.invokevirtual 91, 3) := by decide +kernel
theorem dL_law_773 : decode cL_law 773 = .ok (.aload_n 2, 1) := by decide +kernel
theorem dL_law_774 : decode cL_law 774 = .ok (.invokevirtual 94, 3) := by decide +kernel
theorem dL_law_777 : decode cL_law 777 = .ok (.if_icmp .eq 345, 3) := by decide +kernel
theorem dL_law_780 : decode cL_law 780 = .ok (.iconst 0, 1) := by decide +kernel
theorem dL_law_781 : decode cL_law 781 = .ok (.ireturn, 1) := by decide +kernel
theorem dL_law_782 : decode cL_law 782 = .ok (.aload_n 1, 1) := by decide +kernel
theorem dL_law_783 : decode cL_law 783 = .ok (.aload_n 0, 1) := by decide +kernel
theorem dL_law_784 : decode cL_law 784 = .ok (.iload_n 3, 1) := by decide +kernel
theorem dL_law_785 : decode cL_law 785 = .ok (.iconst 1, 1) := by decide +kernel
theorem dL_law_786 : decode cL_law 786 = .ok (.iadd, 1) := by decide +kernel
theorem dL_law_787 : decode cL_law 787 = .ok (.iaload, 1) := by decide +kernel
theorem dL_law_788 : decode cL_law 788 = .ok (.aload_n 0, 1) := by decide +kernel
theorem dL_law_789 : decode cL_law 789 = .ok (.iload_n 3, 1) := by decide +kernel
theorem dL_law_790 : decode cL_law 790 = .ok (.iconst 2, 1) := by decide +kernel
theorem dL_law_791 : decode cL_law 791 = .ok (.iadd, 1) := by decide +kernel
theorem dL_law_792 : decode cL_law 792 = .ok (.iaload, 1) := by decide +kernel
theorem dL_law_793 : decode cL_law 793 = .ok (.invokevirtual 95, 3) := by decide +kernel
theorem dL_law_796 : decode cL_law 796 = .ok (.aload_n 2, 1) := by decide +kernel
theorem dL_law_797 : decode cL_law 797 = .ok (.aload_n 0, 1) := by decide +kernel
theorem dL_law_798 : decode cL_law 798 = .ok (.iload_n 3, 1) := by decide +kernel
theorem dL_law_799 : decode cL_law 799 = .ok (.iconst 1, 1) := by decide +kernel
theorem dL_law_800 : decode cL_law 800 = .ok (.iadd, 1) := by decide +kernel
theorem dL_law_801 : decode cL_law 801 = .ok (.iaload, 1) := by decide +kernel
theorem dL_law_802 : decode cL_law 802 = .ok (.aload_n 0, 1) := by decide +kernel
theorem dL_law_803 : decode cL_law 803 = .ok (.iload_n 3, 1) := by decide +kernel
theorem dL_law_804 : decode cL_law 804 = .ok (.iconst 2, 1) := by decide +kernel
theorem dL_law_805 : decode cL_law 805 = .ok (.iadd, 1) := by decide +kernel
theorem dL_law_806 : decode cL_law 806 = .ok (.iaload, 1) := by decide +kernel
theorem dL_law_807 : decode cL_law 807 = .ok (.invokevirtual 98, 3) := by decide +kernel
theorem dL_law_810 : decode cL_law 810 = .ok (.if_icmp .eq 312, 3) := by decide +kernel
theorem dL_law_813 : decode cL_law 813 = .ok (.iconst 0, 1) := by decide +kernel
theorem dL_law_814 : decode cL_law 814 = .ok (.ireturn, 1) := by decide +kernel
theorem dL_law_815 : decode cL_law 815 = .ok (.aload_n 1, 1) := by decide +kernel
theorem dL_law_816 : decode cL_law 816 = .ok (.aload_n 0, 1) := by decide +kernel
theorem dL_law_817 : decode cL_law 817 = .ok (.iload_n 3, 1) := by decide +kernel
theorem dL_law_818 : decode cL_law 818 = .ok (.iconst 1, 1) := by decide +kernel
theorem dL_law_819 : decode cL_law 819 = .ok (.iadd, 1) := by decide +kernel
theorem dL_law_820 : decode cL_law 820 = .ok (.iaload, 1) := by decide +kernel
theorem dL_law_821 : decode cL_law 821 = .ok (.aload_n 0, 1) := by decide +kernel
theorem dL_law_822 : decode cL_law 822 = .ok (.iload_n 3, 1) := by decide +kernel
theorem dL_law_823 : decode cL_law 823 = .ok (.iconst 2, 1) := by decide +kernel
theorem dL_law_824 : decode cL_law 824 = .ok (.iadd, 1) := by decide +kernel
theorem dL_law_825 : decode cL_law 825 = .ok (.iaload, 1) := by decide +kernel
theorem dL_law_826 : decode cL_law 826 = .ok (.invokevirtual 99, 3) := by decide +kernel
theorem dL_law_829 : decode cL_law 829 = .ok (.aload_n 2, 1) := by decide +kernel
theorem dL_law_830 : decode cL_law 830 = .ok (.aload_n 0, 1) := by decide +kernel
theorem dL_law_831 : decode cL_law 831 = .ok (.iload_n 3, 1) := by decide +kernel
theorem dL_law_832 : decode cL_law 832 = .ok (.iconst 1, 1) := by decide +kernel
theorem dL_law_833 : decode cL_law 833 = .ok (.iadd, 1) := by decide +kernel
theorem dL_law_834 : decode cL_law 834 = .ok (.iaload, 1) := by decide +kernel
theorem dL_law_835 : decode cL_law 835 = .ok (.aload_n 0, 1) := by decide +kernel
theorem dL_law_836 : decode cL_law 836 = .ok (.iload_n 3, 1) := by decide +kernel
theorem dL_law_837 : decode cL_law 837 = .ok (.iconst 2, 1) := by decide +kernel
theorem dL_law_838 : decode cL_law 838 = .ok (.iadd, 1) := by decide +kernel
theorem dL_law_839 : decode cL_law 839 = .ok (.iaload, 1) := by decide +kernel
theorem dL_law_840 : decode cL_law 840 = .ok (.invokevirtual 102, 3) := by decide +kernel
theorem dL_law_843 : decode cL_law 843 = .ok (.if_icmp .eq 279, 3) := by decide +kernel
theorem dL_law_846 : decode cL_law 846 = .ok (.iconst 0, 1) := by decide +kernel
theorem dL_law_847 : decode cL_law 847 = .ok (.ireturn, 1) := by decide +kernel
theorem dL_law_848 : decode cL_law 848 = .ok (.aload_n 1, 1) := by decide +kernel
theorem dL_law_849 : decode cL_law 849 = .ok (.aload_n 0, 1) := by decide +kernel
theorem dL_law_850 : decode cL_law 850 = .ok (.iload_n 3, 1) := by decide +kernel
theorem dL_law_851 : decode cL_law 851 = .ok (.iconst 1, 1) := by decide +kernel
theorem dL_law_852 : decode cL_law 852 = .ok (.iadd, 1) := by decide +kernel
theorem dL_law_853 : decode cL_law 853 = .ok (.iaload, 1) := by decide +kernel
theorem dL_law_854 : decode cL_law 854 = .ok (.aload_n 0, 1) := by decide +kernel
theorem dL_law_855 : decode cL_law 855 = .ok (.iload_n 3, 1) := by decide +kernel
theorem dL_law_856 : decode cL_law 856 = .ok (.iconst 2, 1) := by decide +kernel
theorem dL_law_857 : decode cL_law 857 = .ok (.iadd, 1) := by decide +kernel
theorem dL_law_858 : decode cL_law 858 = .ok (.iaload, 1) := by decide +kernel
theorem dL_law_859 : decode cL_law 859 = .ok (.invokevirtual 103, 3) := by decide +kernel
theorem dL_law_862 : decode cL_law 862 = .ok (.aload_n 2, 1) := by decide +kernel
theorem dL_law_863 : decode cL_law 863 = .ok (.aload_n 0, 1) := by decide +kernel
theorem dL_law_864 : decode cL_law 864 = .ok (.iload_n 3, 1) := by decide +kernel
theorem dL_law_865 : decode cL_law 865 = .ok (.iconst 1, 1) := by decide +kernel
theorem dL_law_866 : decode cL_law 866 = .ok (.iadd, 1) := by decide +kernel
theorem dL_law_867 : decode cL_law 867 = .ok (.iaload, 1) := by decide +kernel
theorem dL_law_868 : decode cL_law 868 = .ok (.aload_n 0, 1) := by decide +kernel
theorem dL_law_869 : decode cL_law 869 = .ok (.iload_n 3, 1) := by decide +kernel
theorem dL_law_870 : decode cL_law 870 = .ok (.iconst 2, 1) := by decide +kernel
theorem dL_law_871 : decode cL_law 871 = .ok (.iadd, 1) := by decide +kernel
theorem dL_law_872 : decode cL_law 872 = .ok (.iaload, 1) := by decide +kernel
theorem dL_law_873 : decode cL_law 873 = .ok (.invokevirtual 107, 3) := by decide +kernel
theorem dL_law_876 : decode cL_law 876 = .ok (.lcmp, 1) := by decide +kernel
theorem dL_law_877 : decode cL_law 877 = .ok (.ifCond .eq 245, 3) := by decide +kernel
theorem dL_law_880 : decode cL_law 880 = .ok (.iconst 0, 1) := by decide +kernel
theorem dL_law_881 : decode cL_law 881 = .ok (.ireturn, 1) := by decide +kernel
theorem dL_law_882 : decode cL_law 882 = .ok (.aload_n 1, 1) := by decide +kernel
theorem dL_law_883 : decode cL_law 883 = .ok (.aload_n 0, 1) := by decide +kernel
theorem dL_law_884 : decode cL_law 884 = .ok (.iload_n 3, 1) := by decide +kernel
theorem dL_law_885 : decode cL_law 885 = .ok (.iconst 1, 1) := by decide +kernel
theorem dL_law_886 : decode cL_law 886 = .ok (.iadd, 1) := by decide +kernel
theorem dL_law_887 : decode cL_law 887 = .ok (.iaload, 1) := by decide +kernel
theorem dL_law_888 : decode cL_law 888 = .ok (.invokevirtual 108, 3) := by decide +kernel
theorem dL_law_891 : decode cL_law 891 = .ok (.aload_n 2, 1) := by decide +kernel
theorem dL_law_892 : decode cL_law 892 = .ok (.aload_n 0, 1) := by decide +kernel
theorem dL_law_893 : decode cL_law 893 = .ok (.iload_n 3, 1) := by decide +kernel
theorem dL_law_894 : decode cL_law 894 = .ok (.iconst 1, 1) := by decide +kernel
theorem dL_law_895 : decode cL_law 895 = .ok (.iadd, 1) := by decide +kernel
theorem dL_law_896 : decode cL_law 896 = .ok (.iaload, 1) := by decide +kernel
theorem dL_law_897 : decode cL_law 897 = .ok (.invokevirtual 111, 3) := by decide +kernel
theorem dL_law_900 : decode cL_law 900 = .ok (.if_icmp .eq 222, 3) := by decide +kernel
theorem dL_law_903 : decode cL_law 903 = .ok (.iconst 0, 1) := by decide +kernel
theorem dL_law_904 : decode cL_law 904 = .ok (.ireturn, 1) := by decide +kernel
theorem dL_law_905 : decode cL_law 905 = .ok (.aload_n 1, 1) := by decide +kernel
theorem dL_law_906 : decode cL_law 906 = .ok (.aload_n 0, 1) := by decide +kernel
theorem dL_law_907 : decode cL_law 907 = .ok (.iload_n 3, 1) := by decide +kernel
theorem dL_law_908 : decode cL_law 908 = .ok (.iconst 1, 1) := by decide +kernel
theorem dL_law_909 : decode cL_law 909 = .ok (.iadd, 1) := by decide +kernel
theorem dL_law_910 : decode cL_law 910 = .ok (.iaload, 1) := by decide +kernel
theorem dL_law_911 : decode cL_law 911 = .ok (.aload_n 0, 1) := by decide +kernel
theorem dL_law_912 : decode cL_law 912 = .ok (.iload_n 3, 1) := by decide +kernel
theorem dL_law_913 : decode cL_law 913 = .ok (.iconst 2, 1) := by decide +kernel
theorem dL_law_914 : decode cL_law 914 = .ok (.iadd, 1) := by decide +kernel
theorem dL_law_915 : decode cL_law 915 = .ok (.iaload, 1) := by decide +kernel
theorem dL_law_916 : decode cL_law 916 = .ok (.invokevirtual 112, 3) := by decide +kernel
theorem dL_law_919 : decode cL_law 919 = .ok (.aload_n 2, 1) := by decide +kernel
theorem dL_law_920 : decode cL_law 920 = .ok (.aload_n 0, 1) := by decide +kernel
theorem dL_law_921 : decode cL_law 921 = .ok (.iload_n 3, 1) := by decide +kernel
theorem dL_law_922 : decode cL_law 922 = .ok (.iconst 1, 1) := by decide +kernel
theorem dL_law_923 : decode cL_law 923 = .ok (.iadd, 1) := by decide +kernel
theorem dL_law_924 : decode cL_law 924 = .ok (.iaload, 1) := by decide +kernel
theorem dL_law_925 : decode cL_law 925 = .ok (.aload_n 0, 1) := by decide +kernel
theorem dL_law_926 : decode cL_law 926 = .ok (.iload_n 3, 1) := by decide +kernel
theorem dL_law_927 : decode cL_law 927 = .ok (.iconst 2, 1) := by decide +kernel
theorem dL_law_928 : decode cL_law 928 = .ok (.iadd, 1) := by decide +kernel
theorem dL_law_929 : decode cL_law 929 = .ok (.iaload, 1) := by decide +kernel
theorem dL_law_930 : decode cL_law 930 = .ok (.invokevirtual 115, 3) := by decide +kernel
theorem dL_law_933 : decode cL_law 933 = .ok (.if_icmp .eq 189, 3) := by decide +kernel
theorem dL_law_936 : decode cL_law 936 = .ok (.iconst 0, 1) := by decide +kernel
theorem dL_law_937 : decode cL_law 937 = .ok (.ireturn, 1) := by decide +kernel
theorem dL_law_938 : decode cL_law 938 = .ok (.aload_n 1, 1) := by decide +kernel
theorem dL_law_939 : decode cL_law 939 = .ok (.invokevirtual 116, 3) := by decide +kernel
theorem dL_law_942 : decode cL_law 942 = .ok (.aload_n 2, 1) := by decide +kernel
theorem dL_law_943 : decode cL_law 943 = .ok (.invokevirtual 119, 3) := by decide +kernel
theorem dL_law_946 : decode cL_law 946 = .ok (.if_icmp .eq 176, 3) := by decide +kernel
theorem dL_law_949 : decode cL_law 949 = .ok (.iconst 0, 1) := by decide +kernel
theorem dL_law_950 : decode cL_law 950 = .ok (.ireturn, 1) := by decide +kernel
theorem dL_law_951 : decode cL_law 951 = .ok (.aload_n 1, 1) := by decide +kernel
theorem dL_law_952 : decode cL_law 952 = .ok (.aload_n 0, 1) := by decide +kernel
theorem dL_law_953 : decode cL_law 953 = .ok (.iload_n 3, 1) := by decide +kernel
theorem dL_law_954 : decode cL_law 954 = .ok (.iconst 1, 1) := by decide +kernel
theorem dL_law_955 : decode cL_law 955 = .ok (.iadd, 1) := by decide +kernel
theorem dL_law_956 : decode cL_law 956 = .ok (.iaload, 1) := by decide +kernel
theorem dL_law_957 : decode cL_law 957 = .ok (.invokevirtual 120, 3) := by decide +kernel
theorem dL_law_960 : decode cL_law 960 = .ok (.aload_n 2, 1) := by decide +kernel
theorem dL_law_961 : decode cL_law 961 = .ok (.aload_n 0, 1) := by decide +kernel
theorem dL_law_962 : decode cL_law 962 = .ok (.iload_n 3, 1) := by decide +kernel
theorem dL_law_963 : decode cL_law 963 = .ok (.iconst 1, 1) := by decide +kernel
theorem dL_law_964 : decode cL_law 964 = .ok (.iadd, 1) := by decide +kernel
theorem dL_law_965 : decode cL_law 965 = .ok (.iaload, 1) := by decide +kernel
theorem dL_law_966 : decode cL_law 966 = .ok (.invokevirtual 123, 3) := by decide +kernel
theorem dL_law_969 : decode cL_law 969 = .ok (.if_icmp .eq 153, 3) := by decide +kernel
theorem dL_law_972 : decode cL_law 972 = .ok (.iconst 0, 1) := by decide +kernel
theorem dL_law_973 : decode cL_law 973 = .ok (.ireturn, 1) := by decide +kernel
theorem dL_law_974 : decode cL_law 974 = .ok (.aload_n 1, 1) := by decide +kernel
theorem dL_law_975 : decode cL_law 975 = .ok (.aload_n 0, 1) := by decide +kernel
theorem dL_law_976 : decode cL_law 976 = .ok (.iload_n 3, 1) := by decide +kernel
theorem dL_law_977 : decode cL_law 977 = .ok (.iconst 1, 1) := by decide +kernel
theorem dL_law_978 : decode cL_law 978 = .ok (.iadd, 1) := by decide +kernel
theorem dL_law_979 : decode cL_law 979 = .ok (.iaload, 1) := by decide +kernel
theorem dL_law_980 : decode cL_law 980 = .ok (.aload_n 0, 1) := by decide +kernel
theorem dL_law_981 : decode cL_law 981 = .ok (.iload_n 3, 1) := by decide +kernel
theorem dL_law_982 : decode cL_law 982 = .ok (.iconst 2, 1) := by decide +kernel
theorem dL_law_983 : decode cL_law 983 = .ok (.iadd, 1) := by decide +kernel
theorem dL_law_984 : decode cL_law 984 = .ok (.iaload, 1) := by decide +kernel
theorem dL_law_985 : decode cL_law 985 = .ok (.aload_n 0, 1) := by decide +kernel
theorem dL_law_986 : decode cL_law 986 = .ok (.iload_n 3, 1) := by decide +kernel
theorem dL_law_987 : decode cL_law 987 = .ok (.iconst 3, 1) := by decide +kernel
theorem dL_law_988 : decode cL_law 988 = .ok (.iadd, 1) := by decide +kernel
theorem dL_law_989 : decode cL_law 989 = .ok (.iaload, 1) := by decide +kernel
theorem dL_law_990 : decode cL_law 990 = .ok (.invokevirtual 124, 3) := by decide +kernel
theorem dL_law_993 : decode cL_law 993 = .ok (.aload_n 2, 1) := by decide +kernel
theorem dL_law_994 : decode cL_law 994 = .ok (.aload_n 0, 1) := by decide +kernel
theorem dL_law_995 : decode cL_law 995 = .ok (.iload_n 3, 1) := by decide +kernel
theorem dL_law_996 : decode cL_law 996 = .ok (.iconst 1, 1) := by decide +kernel
theorem dL_law_997 : decode cL_law 997 = .ok (.iadd, 1) := by decide +kernel
theorem dL_law_998 : decode cL_law 998 = .ok (.iaload, 1) := by decide +kernel
theorem dL_law_999 : decode cL_law 999 = .ok (.aload_n 0, 1) := by decide +kernel
theorem dL_law_1000 : decode cL_law 1000 = .ok (.iload_n 3, 1) := by decide +kernel
theorem dL_law_1001 : decode cL_law 1001 = .ok (.iconst 2, 1) := by decide +kernel
theorem dL_law_1002 : decode cL_law 1002 = .ok (.iadd, 1) := by decide +kernel
theorem dL_law_1003 : decode cL_law 1003 = .ok (.iaload, 1) := by decide +kernel
theorem dL_law_1004 : decode cL_law 1004 = .ok (.aload_n 0, 1) := by decide +kernel
theorem dL_law_1005 : decode cL_law 1005 = .ok (.iload_n 3, 1) := by decide +kernel
theorem dL_law_1006 : decode cL_law 1006 = .ok (.iconst 3, 1) := by decide +kernel
theorem dL_law_1007 : decode cL_law 1007 = .ok (.iadd, 1) := by decide +kernel
theorem dL_law_1008 : decode cL_law 1008 = .ok (.iaload, 1) := by decide +kernel
theorem dL_law_1009 : decode cL_law 1009 = .ok (.invokevirtual 127, 3) := by decide +kernel
theorem dL_law_1012 : decode cL_law 1012 = .ok (.if_icmp .eq 110, 3) := by decide +kernel
theorem dL_law_1015 : decode cL_law 1015 = .ok (.iconst 0, 1) := by decide +kernel
theorem dL_law_1016 : decode cL_law 1016 = .ok (.ireturn, 1) := by decide +kernel
theorem dL_law_1017 : decode cL_law 1017 = .ok (.aload_n 1, 1) := by decide +kernel
theorem dL_law_1018 : decode cL_law 1018 = .ok (.aload_n 0, 1) := by decide +kernel
theorem dL_law_1019 : decode cL_law 1019 = .ok (.iload_n 3, 1) := by decide +kernel
theorem dL_law_1020 : decode cL_law 1020 = .ok (.iconst 1, 1) := by decide +kernel
theorem dL_law_1021 : decode cL_law 1021 = .ok (.iadd, 1) := by decide +kernel
theorem dL_law_1022 : decode cL_law 1022 = .ok (.iaload, 1) := by decide +kernel
theorem dL_law_1023 : decode cL_law 1023 = .ok (.invokevirtual 128, 3) := by decide +kernel
theorem dL_law_1026 : decode cL_law 1026 = .ok (.aload_n 2, 1) := by decide +kernel
theorem dL_law_1027 : decode cL_law 1027 = .ok (.aload_n 0, 1) := by decide +kernel
theorem dL_law_1028 : decode cL_law 1028 = .ok (.iload_n 3, 1) := by decide +kernel
theorem dL_law_1029 : decode cL_law 1029 = .ok (.iconst 1, 1) := by decide +kernel
theorem dL_law_1030 : decode cL_law 1030 = .ok (.iadd, 1) := by decide +kernel
theorem dL_law_1031 : decode cL_law 1031 = .ok (.iaload, 1) := by decide +kernel
theorem dL_law_1032 : decode cL_law 1032 = .ok (.invokevirtual 131, 3) := by decide +kernel
theorem dL_law_1035 : decode cL_law 1035 = .ok (.if_icmp .eq 87, 3) := by decide +kernel
theorem dL_law_1038 : decode cL_law 1038 = .ok (.iconst 0, 1) := by decide +kernel
theorem dL_law_1039 : decode cL_law 1039 = .ok (.ireturn, 1) := by decide +kernel
theorem dL_law_1040 : decode cL_law 1040 = .ok (.aload_n 1, 1) := by decide +kernel
theorem dL_law_1041 : decode cL_law 1041 = .ok (.aload_n 0, 1) := by decide +kernel
theorem dL_law_1042 : decode cL_law 1042 = .ok (.iload_n 3, 1) := by decide +kernel
theorem dL_law_1043 : decode cL_law 1043 = .ok (.iconst 1, 1) := by decide +kernel
theorem dL_law_1044 : decode cL_law 1044 = .ok (.iadd, 1) := by decide +kernel
theorem dL_law_1045 : decode cL_law 1045 = .ok (.iaload, 1) := by decide +kernel
theorem dL_law_1046 : decode cL_law 1046 = .ok (.aload_n 0, 1) := by decide +kernel
theorem dL_law_1047 : decode cL_law 1047 = .ok (.iload_n 3, 1) := by decide +kernel
theorem dL_law_1048 : decode cL_law 1048 = .ok (.iconst 2, 1) := by decide +kernel
theorem dL_law_1049 : decode cL_law 1049 = .ok (.iadd, 1) := by decide +kernel
theorem dL_law_1050 : decode cL_law 1050 = .ok (.iaload, 1) := by decide +kernel
theorem dL_law_1051 : decode cL_law 1051 = .ok (.invokevirtual 132, 3) := by decide +kernel
theorem dL_law_1054 : decode cL_law 1054 = .ok (.aload_n 2, 1) := by decide +kernel
theorem dL_law_1055 : decode cL_law 1055 = .ok (.aload_n 0, 1) := by decide +kernel
theorem dL_law_1056 : decode cL_law 1056 = .ok (.iload_n 3, 1) := by decide +kernel
theorem dL_law_1057 : decode cL_law 1057 = .ok (.iconst 1, 1) := by decide +kernel
theorem dL_law_1058 : decode cL_law 1058 = .ok (.iadd, 1) := by decide +kernel
theorem dL_law_1059 : decode cL_law 1059 = .ok (.iaload, 1) := by decide +kernel
theorem dL_law_1060 : decode cL_law 1060 = .ok (.aload_n 0, 1) := by decide +kernel
theorem dL_law_1061 : decode cL_law 1061 = .ok (.iload_n 3, 1) := by decide +kernel
theorem dL_law_1062 : decode cL_law 1062 = .ok (.iconst 2, 1) := by decide +kernel
theorem dL_law_1063 : decode cL_law 1063 = .ok (.iadd, 1) := by decide +kernel
theorem dL_law_1064 : decode cL_law 1064 = .ok (.iaload, 1) := by decide +kernel
theorem dL_law_1065 : decode cL_law 1065 = .ok (.invokevirtual 135, 3) := by decide +kernel
theorem dL_law_1068 : decode cL_law 1068 = .ok (.if_icmp .eq 54, 3) := by decide +kernel
theorem dL_law_1071 : decode cL_law 1071 = .ok (.iconst 0, 1) := by decide +kernel
theorem dL_law_1072 : decode cL_law 1072 = .ok (.ireturn, 1) := by decide +kernel
theorem dL_law_1073 : decode cL_law 1073 = .ok (.aload_n 1, 1) := by decide +kernel
theorem dL_law_1074 : decode cL_law 1074 = .ok (.invokevirtual 136, 3) := by decide +kernel
theorem dL_law_1077 : decode cL_law 1077 = .ok (.aload_n 2, 1) := by decide +kernel
theorem dL_law_1078 : decode cL_law 1078 = .ok (.invokevirtual 139, 3) := by decide +kernel
theorem dL_law_1081 : decode cL_law 1081 = .ok (.if_icmp .eq 41, 3) := by decide +kernel
theorem dL_law_1084 : decode cL_law 1084 = .ok (.iconst 0, 1) := by decide +kernel
theorem dL_law_1085 : decode cL_law 1085 = .ok (.ireturn, 1) := by decide +kernel
theorem dL_law_1086 : decode cL_law 1086 = .ok (.aload_n 1, 1) := by decide +kernel
theorem dL_law_1087 : decode cL_law 1087 = .ok (.invokevirtual 140, 3) := by decide +kernel
theorem dL_law_1090 : decode cL_law 1090 = .ok (.aload_n 2, 1) := by decide +kernel
theorem dL_law_1091 : decode cL_law 1091 = .ok (.invokevirtual 143, 3) := by decide +kernel
theorem dL_law_1094 : decode cL_law 1094 = .ok (.if_icmp .eq 28, 3) := by decide +kernel
theorem dL_law_1097 : decode cL_law 1097 = .ok (.iconst 0, 1) := by decide +kernel
theorem dL_law_1098 : decode cL_law 1098 = .ok (.ireturn, 1) := by decide +kernel
theorem dL_law_1099 : decode cL_law 1099 = .ok (.aload_n 1, 1) := by decide +kernel
theorem dL_law_1100 : decode cL_law 1100 = .ok (.aload_n 0, 1) := by decide +kernel
theorem dL_law_1101 : decode cL_law 1101 = .ok (.iload_n 3, 1) := by decide +kernel
theorem dL_law_1102 : decode cL_law 1102 = .ok (.iconst 1, 1) := by decide +kernel
theorem dL_law_1103 : decode cL_law 1103 = .ok (.iadd, 1) := by decide +kernel
theorem dL_law_1104 : decode cL_law 1104 = .ok (.iaload, 1) := by decide +kernel
theorem dL_law_1105 : decode cL_law 1105 = .ok (.invokevirtual 144, 3) := by decide +kernel
theorem dL_law_1108 : decode cL_law 1108 = .ok (.aload_n 2, 1) := by decide +kernel
theorem dL_law_1109 : decode cL_law 1109 = .ok (.aload_n 0, 1) := by decide +kernel
theorem dL_law_1110 : decode cL_law 1110 = .ok (.iload_n 3, 1) := by decide +kernel
theorem dL_law_1111 : decode cL_law 1111 = .ok (.iconst 1, 1) := by decide +kernel
theorem dL_law_1112 : decode cL_law 1112 = .ok (.iadd, 1) := by decide +kernel
theorem dL_law_1113 : decode cL_law 1113 = .ok (.iaload, 1) := by decide +kernel
theorem dL_law_1114 : decode cL_law 1114 = .ok (.invokevirtual 147, 3) := by decide +kernel
theorem dL_law_1117 : decode cL_law 1117 = .ok (.if_icmp .eq 5, 3) := by decide +kernel
theorem dL_law_1120 : decode cL_law 1120 = .ok (.iconst 0, 1) := by decide +kernel
theorem dL_law_1121 : decode cL_law 1121 = .ok (.ireturn, 1) := by decide +kernel
theorem dL_law_1122 : decode cL_law 1122 = .ok (.iinc 3 5, 3) := by decide +kernel
theorem dL_law_1125 : decode cL_law 1125 = .ok (.goto (-1107), 3) := by decide +kernel
theorem dL_law_1128 : decode cL_law 1128 = .ok (.iconst 1, 1) := by decide +kernel
theorem dL_law_1129 : decode cL_law 1129 = .ok (.ireturn, 1) := by decide +kernel
end
section
-- values as whole numbers, worlds by a layout, the rows over them
def kp_iv (x : Int) : Value := .int (Int32.ofInt x)
def kp_jv (x : Int) : Value := .long (Int64.ofInt x)
abbrev kp_W : Type := Nat → Nat → Int
abbrev kp_R : Type := Option (Int × kp_W)
abbrev kp_in (x : Int) : Prop := -2147483648 ≤ x ∧ x ≤ 2147483647
abbrev kp_inL (x : Int) : Prop := -9223372036854775808 ≤ x ∧ x ≤ 9223372036854775807
def kp_up (σ : kp_W) (k j : Nat) (x : Int) : kp_W := fun a b => if a = k ∧ b = j then x else σ a b
def kp_cp (σ : kp_W) (k1 : Nat) (f : Nat → Int) (sp dp n : Nat) : kp_W := fun a b => if a = k1 ∧ dp ≤ b ∧ b < dp + n then f (sp + (b - dp)) else σ a b
-- the words of the functional programs
def kp_ck (c : Prop) [Decidable c] (k : kp_R) : kp_R := if c then k else none
def kp_lt {τ : Type} (v : τ) (f : τ → kp_R) : kp_R := f v
def kp_jn {τ : Type} (f : τ) (g : τ → kp_R) : kp_R := g f
def kp_bd (x : kp_R) (f : Int → kp_W → kp_R) : kp_R := match x with
  | none => none
  | some p => f p.1 p.2
def kp_eq (x y : Int) (a b : kp_R) : kp_R := if kp_in x ∧ kp_in y then (if x = y then a else b) else none
def kp_ls (x y : Int) (a b : kp_R) : kp_R := if kp_in x ∧ kp_in y then (if x < y then a else b) else none
def kp_and (x y : Int) : Int := (Int32.ofInt x &&& Int32.ofInt y).toInt
def kp_or (x y : Int) : Int := (Int32.ofInt x ||| Int32.ofInt y).toInt
def kp_xor (x y : Int) : Int := (Int32.ofInt x ^^^ Int32.ofInt y).toInt
def kp_andL (x y : Int) : Int := (Int64.ofInt x &&& Int64.ofInt y).toInt
def kp_orL (x y : Int) : Int := (Int64.ofInt x ||| Int64.ofInt y).toInt
def kp_xorL (x y : Int) : Int := (Int64.ofInt x ^^^ Int64.ofInt y).toInt
def kp_cmp (x y : Int) : Int := if x < y then -1 else if x = y then 0 else 1
def kp_max (x y : Int) : Int := if x < y then y else x
def kp_min (x y : Int) : Int := if y < x then y else x
def kp_abs (x : Int) : Int := if 0 ≤ x then x else -x
theorem kp_ck_s {c : Prop} [Decidable c] {k : kp_R} {o : Int × kp_W} (h : kp_ck c k = some o) : c ∧ k = some o := by
  unfold kp_ck at h
  split at h
  · exact ⟨‹_›, h⟩
  · cases h
theorem kp_lt_s {τ : Type} {v : τ} {f : τ → kp_R} {o : Int × kp_W} (h : kp_lt v f = some o) : f v = some o := h
theorem kp_jn_s {τ : Type} {f : τ} {g : τ → kp_R} {o : Int × kp_W} (h : kp_jn f g = some o) : ∃ j, j = f ∧ g j = some o := ⟨f, rfl, h⟩
theorem kp_bd_s {x : kp_R} {f : Int → kp_W → kp_R} {o : Int × kp_W} (h : kp_bd x f = some o) : ∃ r σ, x = some (r, σ) ∧ f r σ = some o := by
  unfold kp_bd at h
  split at h
  · cases h
  · exact ⟨_, _, rfl, h⟩
theorem kp_eq_s {x y : Int} {a b : kp_R} {o : Int × kp_W} (h : kp_eq x y a b = some o) : kp_in x ∧ kp_in y ∧ (x = y → a = some o) ∧ (¬ x = y → b = some o) := by
  unfold kp_eq at h
  split at h
  · rename_i hi
    refine ⟨hi.1, hi.2, fun e => ?_, fun e => ?_⟩
    · rw [if_pos e] at h; exact h
    · rw [if_neg e] at h; exact h
  · cases h
theorem kp_ls_s {x y : Int} {a b : kp_R} {o : Int × kp_W} (h : kp_ls x y a b = some o) : kp_in x ∧ kp_in y ∧ (x < y → a = some o) ∧ (¬ x < y → b = some o) := by
  unfold kp_ls at h
  split at h
  · rename_i hi
    refine ⟨hi.1, hi.2, fun e => ?_, fun e => ?_⟩
    · rw [if_pos e] at h; exact h
    · rw [if_neg e] at h; exact h
  · cases h
-- numbers
theorem kp_ti {x : Int} (h : kp_in x) : (Int32.ofInt x).toInt = x := Int32.toInt_ofInt_of_le (by have := h.1; omega) (by have := h.2; omega)
theorem kp_tiL {x : Int} (h : kp_inL x) : (Int64.ofInt x).toInt = x := Int64.toInt_ofInt_of_le (by have := h.1; omega) (by have := h.2; omega)
theorem kp_cl {x : Int} (h : kp_in x) : (Int32.ofInt x).toNatClampNeg = x.toNat := by
  show (Int32.ofInt x).toInt.toNat = _
  rw [kp_ti h]
theorem kp_lt_i {x y : Int} (hx : kp_in x) (hy : kp_in y) : Int32.ofInt x < Int32.ofInt y ↔ x < y := by
  rw [Int32.lt_iff_toInt_lt, kp_ti hx, kp_ti hy]
theorem kp_le_i {x y : Int} (hx : kp_in x) (hy : kp_in y) : Int32.ofInt x ≤ Int32.ofInt y ↔ x ≤ y := by
  rw [Int32.le_iff_toInt_le, kp_ti hx, kp_ti hy]
theorem kp_eq_i {x y : Int} (hx : kp_in x) (hy : kp_in y) : Int32.ofInt x = Int32.ofInt y ↔ x = y := by
  rw [← Int32.toInt_inj, kp_ti hx, kp_ti hy]
theorem kp_0 : (0 : Int32) = Int32.ofInt 0 := rfl
theorem kp_in0 : kp_in 0 := by decide
theorem kp_vin {x n : Int} (h : 0 ≤ x ∧ x < n) (hn : n ≤ 2147483647) : vp_in (Int32.ofInt x) n.toNat := by
  rw [vp_in_iff, kp_ti ⟨by omega, by omega⟩]
  exact ⟨h.1, by omega⟩
theorem kp_clx {x n : Int} (h : 0 ≤ x ∧ x < n) (hn : n ≤ 2147483647) : (Int32.ofInt x).toNatClampNeg = x.toNat := kp_cl ⟨by omega, by omega⟩
theorem kp_toNat {x : Int} (h : 0 ≤ x) : ((x.toNat : Nat) : Int) = x := Int.toNat_of_nonneg h
theorem kp_nI {x : Int} (h : 0 ≤ x) : Int32.ofInt x = nI x.toNat := by
  unfold nI
  rw [← Int32.ofInt_eq_ofNat, kp_toNat h]
theorem kp_div {x y : Int} (hx : 0 ≤ x ∧ x ≤ 2147483647) (hy : 0 < y ∧ y ≤ 2147483647) : Int32.ofInt x / Int32.ofInt y = Int32.ofInt (x / y) := by
  have h0 : (0 : Int) ≤ x / y := Int.ediv_nonneg hx.1 (by omega)
  rw [kp_nI hx.1, kp_nI (x := y) (by omega), kp_nI h0, pk_div (by omega) (by omega) (by omega)]
  congr 1
  have e : x / y = ((x.toNat / y.toNat : Nat) : Int) := by
    rw [Int.natCast_ediv, kp_toNat hx.1, kp_toNat (x := y) (by omega)]
  rw [e]
  rfl
theorem kp_rem {x y : Int} (hx : 0 ≤ x ∧ x ≤ 2147483647) (hy : 0 < y ∧ y ≤ 2147483647) : Int32.ofInt x - Int32.ofInt x / Int32.ofInt y * Int32.ofInt y = Int32.ofInt (x % y) := by
  rw [kp_div hx hy, ← Int32.ofInt_mul, ← Int32.ofInt_sub]
  congr 1
  have := Int.emod_def x y
  rw [this, Int.mul_comm]
theorem kp_sh {y : Int} (h : 0 ≤ y ∧ y < 32) : ∃ n : Nat, n < 32 ∧ y = (n : Int) ∧ y.toNat = n ∧ ((Int32.ofInt y &&& 31).toBitVec.smod 32).toNat = n ∧ Int32.ofInt y &&& 31 = nI n := by
  obtain ⟨n, rfl⟩ := Int.eq_ofNat_of_zero_le h.1
  have hn : n < 32 := by omega
  have key : ∀ n : Nat, n < 32 → ((Int32.ofInt (n : Int) &&& 31).toBitVec.smod 32).toNat = n ∧ Int32.ofInt (n : Int) &&& 31 = nI n := by decide +kernel
  exact ⟨n, hn, rfl, rfl, (key n hn).1, (key n hn).2⟩
theorem kp_ishr {x y : Int} (hx : kp_in x) (hy : 0 ≤ y ∧ y < 32) : Int32.ofInt x >>> (Int32.ofInt y &&& 31) = Int32.ofInt (x / 2 ^ y.toNat) := by
  obtain ⟨n, hn, rfl, e, hs, -⟩ := kp_sh hy
  rw [← Int32.toInt_inj, pk_shr _ _ n hs, kp_ti hx, e, Int.shiftRight_eq_div_pow]
  have hp : (0 : Int) < 2 ^ n := Int.pow_pos (by decide)
  have b : kp_in (x / ((2 ^ n : Nat) : Int)) := by
    have e2 : ((2 ^ n : Nat) : Int) = 2 ^ n := by norm_cast
    rw [e2]
    refine ⟨?_, ?_⟩
    · refine Int.le_ediv_of_mul_le hp ?_
      have h1 : (1 : Int) ≤ 2 ^ n := hp
      have := hx.1
      have h2 : (-2147483648 : Int) * 2 ^ n ≤ -2147483648 * 1 := Int.mul_le_mul_of_nonpos_left (by decide) h1
      omega
    · have h3 : x / 2 ^ n ≤ 2147483647 / 2 ^ n := Int.ediv_le_ediv hp hx.2
      have h4 : (2147483647 : Int) / 2 ^ n ≤ 2147483647 := Int.ediv_le_self _ (by decide)
      omega
  have e2 : ((2 ^ n : Nat) : Int) = 2 ^ n := by norm_cast
  rw [e2] at b ⊢
  rw [kp_ti b]
theorem kp_ishl {x y : Int} (hy : 0 ≤ y ∧ y < 32) : Int32.ofInt x <<< (Int32.ofInt y &&& 31) = Int32.ofInt (x * 2 ^ y.toNat) := by
  obtain ⟨n, hn, rfl, e, hs, he⟩ := kp_sh hy
  rw [e]
  apply Int32.toBitVec.inj
  rw [Int32.toBitVec_shiftLeft, BitVec.shiftLeft_eq', hs, Int32.toBitVec_ofInt, Int32.toBitVec_ofInt, BitVec.shiftLeft_eq_mul_twoPow, BitVec.ofInt_mul]
  congr 1
  apply BitVec.eq_of_toNat_eq
  rw [BitVec.toNat_twoPow, BitVec.toNat_ofInt]
  have e3 : ((2 : Int) ^ n) = ((2 ^ n : Nat) : Int) := by norm_cast
  rw [e3]
  omega
theorem kp_shL {y : Int} (h : 0 ≤ y ∧ y < 64) : ∃ n : Nat, n < 64 ∧ y = (n : Int) ∧ y.toNat = n ∧ (((Int32.ofInt y).toInt64 &&& 63).toBitVec.smod 64).toNat = n := by
  obtain ⟨n, rfl⟩ := Int.eq_ofNat_of_zero_le h.1
  have hn : n < 64 := by omega
  have key : ∀ n : Nat, n < 64 → (((Int32.ofInt (n : Int)).toInt64 &&& 63).toBitVec.smod 64).toNat = n := by decide +kernel
  exact ⟨n, hn, rfl, rfl, key n hn⟩
theorem kp_lshl {x y : Int} (hy : 0 ≤ y ∧ y < 64) : Int64.ofInt x <<< ((Int32.ofInt y).toInt64 &&& 63) = Int64.ofInt (x * 2 ^ y.toNat) := by
  obtain ⟨n, hn, rfl, e, hs⟩ := kp_shL hy
  rw [e]
  apply Int64.toBitVec.inj
  rw [Int64.toBitVec_shiftLeft, BitVec.shiftLeft_eq', hs, Int64.toBitVec_ofInt, Int64.toBitVec_ofInt, BitVec.shiftLeft_eq_mul_twoPow, BitVec.ofInt_mul]
  congr 1
  apply BitVec.eq_of_toNat_eq
  rw [BitVec.toNat_twoPow, BitVec.toNat_ofInt]
  have e3 : ((2 : Int) ^ n) = ((2 ^ n : Nat) : Int) := by norm_cast
  rw [e3]
  omega
theorem kp_lshr {x y : Int} (hx : kp_inL x) (hy : 0 ≤ y ∧ y < 64) : Int64.ofInt x >>> ((Int32.ofInt y).toInt64 &&& 63) = Int64.ofInt (x / 2 ^ y.toNat) := by
  obtain ⟨n, hn, rfl, e, hs⟩ := kp_shL hy
  rw [e, ← Int64.toInt_inj]
  have hp : (0 : Int) < 2 ^ n := Int.pow_pos (by decide)
  have b : kp_inL (x / 2 ^ n) := by
    refine ⟨?_, ?_⟩
    · refine Int.le_ediv_of_mul_le hp ?_
      have h1 : (1 : Int) ≤ 2 ^ n := hp
      have := hx.1
      have h2 : (-9223372036854775808 : Int) * 2 ^ n ≤ -9223372036854775808 * 1 := Int.mul_le_mul_of_nonpos_left (by decide) h1
      omega
    · have h3 : x / 2 ^ n ≤ 9223372036854775807 / 2 ^ n := Int.ediv_le_ediv hp hx.2
      have h4 : (9223372036854775807 : Int) / 2 ^ n ≤ 9223372036854775807 := Int.ediv_le_self _ (by decide)
      omega
  rw [kp_tiL b]
  show (Int64.ofInt x >>> ((Int32.ofInt (n : Int)).toInt64 &&& 63)).toBitVec.toInt = _
  rw [Int64.toBitVec_shiftRight, BitVec.sshiftRight_eq', hs, BitVec.toInt_sshiftRight, Int.shiftRight_eq_div_pow]
  have e1 : (Int64.ofInt x).toBitVec.toInt = x := kp_tiL hx
  have e2 : ((2 ^ n : Nat) : Int) = 2 ^ n := by norm_cast
  rw [e1, e2]
theorem kp_lcmp {x y : Int} (hx : kp_inL x) (hy : kp_inL y) : lg_cmp (Int64.ofInt x) (Int64.ofInt y) = Int32.ofInt (kp_cmp x y) := by
  have h1 : Int64.ofInt x > Int64.ofInt y ↔ y < x := by
    show Int64.ofInt y < Int64.ofInt x ↔ _
    rw [Int64.lt_iff_toInt_lt, kp_tiL hx, kp_tiL hy]
  have h2 : Int64.ofInt x = Int64.ofInt y ↔ x = y := by rw [← Int64.toInt_inj, kp_tiL hx, kp_tiL hy]
  unfold lg_cmp kp_cmp
  by_cases a : y < x
  · rw [if_pos (h1.mpr a), if_neg (by omega), if_neg (by omega)]; rfl
  · rw [if_neg (fun z => a (h1.mp z))]
    by_cases b : x = y
    · rw [if_pos (h2.mpr b), if_neg (by omega), if_pos b]; rfl
    · rw [if_neg (fun z => b (h2.mp z)), if_pos (by omega)]; rfl
theorem kp_i2l {x : Int} (hx : kp_in x) : (Int32.ofInt x).toInt64 = Int64.ofInt x := by
  rw [← Int64.ofInt_int32ToInt, kp_ti hx]
theorem kp_and_i (x y : Int) : Int32.ofInt x &&& Int32.ofInt y = Int32.ofInt (kp_and x y) := (Int32.ofInt_toInt _).symm
theorem kp_or_i (x y : Int) : Int32.ofInt x ||| Int32.ofInt y = Int32.ofInt (kp_or x y) := (Int32.ofInt_toInt _).symm
theorem kp_xor_i (x y : Int) : Int32.ofInt x ^^^ Int32.ofInt y = Int32.ofInt (kp_xor x y) := (Int32.ofInt_toInt _).symm
theorem kp_and_l (x y : Int) : Int64.ofInt x &&& Int64.ofInt y = Int64.ofInt (kp_andL x y) := (Int64.ofInt_toInt _).symm
theorem kp_or_l (x y : Int) : Int64.ofInt x ||| Int64.ofInt y = Int64.ofInt (kp_orL x y) := (Int64.ofInt_toInt _).symm
theorem kp_xor_l (x y : Int) : Int64.ofInt x ^^^ Int64.ofInt y = Int64.ofInt (kp_xorL x y) := (Int64.ofInt_toInt _).symm
-- worlds
abbrev kp_D : Type := Nat × Nat × List (Option Nat)
def kp_fl (ad : Nat → Nat) (f : Nat → Int) : Nat → List (Option Nat) → List Value
  | _, [] => []
  | i, none :: l => kp_iv (f i) :: kp_fl ad f (i + 1) l
  | i, some r :: l => .ref (ad r) :: kp_fl ad f (i + 1) l
abbrev kp_X : Type := va_G × (Nat → Nat) × (Nat → ClassId) × (Nat → Nat) × (Nat → Nat) × (Nat → Nat)
def kp_ad (X : kp_X) : Nat → Nat := X.2.1
def kp_cy (X : kp_X) : Nat → ClassId := X.2.2.1
def kp_tt (X : kp_X) : Nat → Nat := X.2.2.2.1
def kp_sK (X : kp_X) : Nat → Nat := X.2.2.2.2.1
def kp_sV (X : kp_X) : Nat → Nat := X.2.2.2.2.2
def kp_ce (X : kp_X) (d : kp_D) (f : Nat → Int) : va_E := match d.1 with
  | 0 => .inr (d.2.1, kp_fl (kp_ad X) f 0 d.2.2)
  | 1 => .inl (kp_cy X 0, d.2.1, .inl fun j => Int32.ofInt (f j))
  | 2 => .inl (kp_cy X 1, d.2.1, .inr (.inl fun j => Int64.ofInt (f j)))
  | _ => .inl (kp_cy X 2, d.2.1, .inl fun j => Int32.ofInt (f j))
def kp_ws (X : kp_X) (lay : Nat → kp_D) (N : Nat) (σ : kp_W) : va_W := (List.range N).map fun k => (kp_ad X k, kp_ce X (lay k) (σ k))
def kp_A (X : kp_X) (N : Nat) : Nat → Prop := fun q => ∃ k, k < N ∧ q = kp_ad X k
def kp_inj (X : kp_X) (N : Nat) : Prop := ∀ i j, i < N → j < N → kp_ad X i = kp_ad X j → i = j
def kp_tys (X : kp_X) : List (ClassId × FieldType) := [(kp_cy X 0, .int), (kp_cy X 1, .long), (kp_cy X 2, .boolean)]
def kp_tn : Nat → String × String := fun i => match i with
  | 0 => ("KnockPipes", "WITHOUT")
  | 1 => ("KnockPipes", "ABOVE")
  | _ => ("KnockPipes$Acts", "BODIES")
def kp_tb : Nat → List Int := fun i => match i with
  | 0 => [3, 1, 1, 4, 1]
  | 1 => [-1, 0, 0, 0, 1, 2, 3]
  | _ => [1, 2, 3, 11, 0, 0, 0, 21, 0, 0, 0, 31, 0, 0, 41, 51, 0, 0, 0, 61, 0]
def kp_st : List (List Nat) := [[110, 112, 107, 118, 116], [60, 61, 62], [103, 114, 111, 119, 32, 104, 111, 108, 100, 32, 119, 97, 114, 109, 32, 99, 111, 111, 108, 32, 105, 114, 111, 110, 32, 97, 105, 114, 32, 32, 104, 101, 97, 114, 32], [111, 108, 100, 32], [101, 97, 114, 32], [103, 114, 111, 119, 32], [119, 97, 114, 109, 32], [99, 111, 111, 108, 32], [105, 114, 111, 110, 32], [97, 105, 114, 32]]
def kp_len : List Nat := kp_st.map List.length
def kp_byt : List (List Int32) := kp_st.map fun l => l.map Int32.ofNat
def kp_sr : List (String × Nat × String × Nat) := [("KnockPipes$Reader", 98, "npkvt", 0), ("KnockPipes$Reader", 104, "<=>", 1), ("KnockPipes$Reader", 72, "grow hold warm cool iron air  hear ", 2), ("KnockPipesModel", 94, "npkvt", 0), ("KnockPipesModel", 100, "<=>", 1), ("KnockPipesModel", 112, "old ", 3), ("KnockPipesModel", 118, "ear ", 4), ("KnockPipesModel", 123, "grow ", 5), ("KnockPipesModel", 128, "warm ", 6), ("KnockPipesModel", 130, "cool ", 7), ("KnockPipesModel", 132, "iron ", 8), ("KnockPipesModel", 134, "air ", 9)]
def kp_nm : List (String × Nat × MethodName × String) := [("KnockPipes", 13, yX1_init, "KnockPipes"), ("KnockPipes", 27, yX5_init, "KnockPipes"), ("KnockPipes", 34, yX6_init, "KnockPipes"), ("KnockPipes", 41, yX0_init, "KnockPipes"), ("KnockPipes$Acts", 38, yX9_isKind, "KnockPipes"), ("KnockPipes$Home", 17, yX7_init, "KnockPipes"), ("KnockPipes$Home", 31, yX3_init, "KnockPipes"), ("KnockPipes$Home", 38, yX4_init, "KnockPipes"), ("KnockPipes$Reader", 20, yX7_init, "KnockPipes")]
def kp_nf : List (String × Nat × String × String × String × String) := [("KnockPipes$Acts", 45, "KnockPipes", "ABOVE", "[I", "KnockPipes"), ("KnockPipes$House", 38, "KnockPipes", "WITHOUT", "[I", "KnockPipes")]
def kp_ST (X : kp_X) (A : Nat → Prop) (U : State) (H : Heap) : Prop :=
  (∀ i, i < 3 → va_Z (kp_tn i).1 (kp_tn i).2 "[I" (.ref (kp_tt X i)) A U H ∧ va_T .int (kp_tt X i) (kp_tb i).length (fun j => kp_iv ((kp_tb i).getD j 0)) A U H) ∧
  vk_S 10 kp_len kp_byt (kp_sK X) (kp_sV X) A U H ∧ va_Z "java/lang/String" "COMPACT_STRINGS" "Z" (.int 1) A U H ∧
  va_Zq "jdk/internal/util/Preconditions" "SIOOBE_FORMATTER" "Ljava/util/function/BiFunction;" A U H ∧
  (∀ q ∈ kp_sr, vk_R q.1 q.2.1 q.2.2.1 (kp_sK X q.2.2.2) U) ∧ (∀ q ∈ kp_nm, va_Nw (.methodLinkNest q.1 q.2.1 q.2.2.1 q.2.2.2) U) ∧
  ∀ q ∈ kp_nf, va_Nw (.fieldLinkNest q.1 q.2.1 q.2.2.1 q.2.2.2.1 q.2.2.2.2.1 q.2.2.2.2.2) U
def kp_G (X : kp_X) (N : Nat) (s : State) : Prop := va_K X.1 vwCl (kp_tys X) s ∧ kp_inj X N ∧ kp_ST X (kp_A X N) s s.heap
def kp_H (X : kp_X) (lay : Nat → kp_D) (N : Nat) (s : State) (σ : kp_W) (H : Heap) (locs : List Loc) : Prop := va_P X.1 vwCl (kp_ws X lay N σ) H ∧ va_S (kp_A X N) s.heap H locs
def kp_B (X : kp_X) (lay : Nat → kp_D) (N : Nat) (σ : kp_W) (U : State) : Prop := va_P X.1 vwCl (kp_ws X lay N σ) U.heap ∧ kp_G X N U
theorem kp_ws_at {X : kp_X} {lay : Nat → kp_D} {N : Nat} {σ : kp_W} {k : Nat} (h : k < N) : (kp_ws X lay N σ)[k]? = some (kp_ad X k, kp_ce X (lay k) (σ k)) := by
  unfold kp_ws
  rw [List.getElem?_map, List.getElem?_range h]
  rfl
theorem kp_ws_some {X : kp_X} {lay : Nat → kp_D} {N : Nat} {σ : kp_W} {k : Nat} {q : Nat × va_E} (h : (kp_ws X lay N σ)[k]? = some q) : k < N ∧ q = (kp_ad X k, kp_ce X (lay k) (σ k)) := by
  have hk : k < N := by
    have := (List.getElem?_eq_some_iff.mp h).1
    simpa [kp_ws] using this
  rw [kp_ws_at hk] at h
  exact ⟨hk, (Option.some.inj h).symm⟩
theorem kp_ws_len {X : kp_X} {lay : Nat → kp_D} {N : Nat} {σ : kp_W} : (kp_ws X lay N σ).length = N := by simp [kp_ws]
theorem kp_ws_set {X : kp_X} {lay : Nat → kp_D} {N : Nat} {σ σ' : kp_W} {k : Nat} {e : va_E} (hk : k < N) (he : kp_ce X (lay k) (σ' k) = e) (hne : ∀ j, j ≠ k → σ' j = σ j) : (kp_ws X lay N σ).set k (kp_ad X k, e) = kp_ws X lay N σ' := by
  apply List.ext_getElem?
  intro i
  by_cases hi : i = k
  · subst hi
    rw [List.getElem?_set_self (by rw [kp_ws_len]; exact hk), kp_ws_at hk, he]
  · rw [List.getElem?_set_ne (Ne.symm hi)]
    by_cases hN : i < N
    · rw [kp_ws_at hN, kp_ws_at hN, hne i hi]
    · rw [List.getElem?_eq_none (by rw [kp_ws_len]; omega), List.getElem?_eq_none (by rw [kp_ws_len]; omega)]
theorem kp_up_ne {σ : kp_W} {k i j : Nat} {x : Int} (h : j ≠ k) : kp_up σ k i x j = σ j := by
  funext b
  unfold kp_up
  rw [if_neg (fun z => h z.1)]
theorem kp_up_eq {σ : kp_W} {k i j : Nat} {x : Int} : kp_up σ k i x k j = if j = i then x else σ k j := by
  unfold kp_up
  by_cases h : j = i
  · rw [if_pos ⟨rfl, h⟩, if_pos h]
  · rw [if_neg (fun z => h z.2), if_neg h]
theorem kp_cp_ne {σ : kp_W} {k : Nat} {f : Nat → Int} {sp dp n j : Nat} (h : j ≠ k) : kp_cp σ k f sp dp n j = σ j := by
  funext b
  unfold kp_cp
  rw [if_neg (fun z => h z.1)]
theorem kp_cp_eq {σ : kp_W} {k : Nat} {f : Nat → Int} {sp dp n j : Nat} : kp_cp σ k f sp dp n k j = if dp ≤ j ∧ j < dp + n then f (sp + (j - dp)) else σ k j := by
  unfold kp_cp
  by_cases h : dp ≤ j ∧ j < dp + n
  · rw [if_pos ⟨rfl, h⟩, if_pos h]
  · rw [if_neg (fun z => h z.2), if_neg h]
theorem kp_ws_D {X : kp_X} {lay : Nat → kp_D} {N : Nat} {σ : kp_W} (hi : kp_inj X N) : va_D (kp_A X N) (kp_ws X lay N σ) := by
  refine ⟨fun i j p q h1 h2 h3 => ?_, fun k q h => ?_⟩
  · obtain ⟨a, rfl⟩ := kp_ws_some h1
    obtain ⟨b, rfl⟩ := kp_ws_some h2
    exact hi i j a b h3
  · obtain ⟨a, rfl⟩ := kp_ws_some h
    exact ⟨k, a, rfl⟩
theorem kp_fl_get (ad : Nat → Nat) (f : Nat → Int) : ∀ (l : List (Option Nat)) (i j : Nat), (kp_fl ad f i l)[j]? = (l[j]?).map (fun o => match o with | none => kp_iv (f (i + j)) | some r => .ref (ad r))
  | [], i, j => by simp [kp_fl]
  | none :: l, i, 0 => by simp [kp_fl]
  | some r :: l, i, 0 => by simp [kp_fl]
  | none :: l, i, j + 1 => by
    rw [kp_fl, List.getElem?_cons_succ, List.getElem?_cons_succ, kp_fl_get ad f l (i + 1) j, show i + 1 + j = i + (j + 1) by omega]
  | some r :: l, i, j + 1 => by
    rw [kp_fl, List.getElem?_cons_succ, List.getElem?_cons_succ, kp_fl_get ad f l (i + 1) j, show i + 1 + j = i + (j + 1) by omega]
theorem kp_fl_len (ad : Nat → Nat) (f : Nat → Int) : ∀ (l : List (Option Nat)) (i : Nat), (kp_fl ad f i l).length = l.length
  | [], i => rfl
  | none :: l, i => by rw [kp_fl, List.length_cons, List.length_cons, kp_fl_len ad f l (i + 1)]
  | some r :: l, i => by rw [kp_fl, List.length_cons, List.length_cons, kp_fl_len ad f l (i + 1)]
theorem kp_fl_set {ad : Nat → Nat} {σ : kp_W} {k j : Nat} {x : Int} {rs : List (Option Nat)} (hr : rs[j]? = some none) : kp_fl ad (kp_up σ k j x k) 0 rs = (kp_fl ad (σ k) 0 rs).set j (kp_iv x) := by
  have hj : j < rs.length := (List.getElem?_eq_some_iff.mp hr).1
  apply List.ext_getElem?
  intro i
  by_cases hi : i = j
  · subst hi
    rw [List.getElem?_set_self (by rw [kp_fl_len]; exact hj), kp_fl_get, hr]
    simp [kp_up_eq]
  · rw [List.getElem?_set_ne (Ne.symm hi), kp_fl_get, kp_fl_get]
    congr 1
    funext o
    cases o with
    | none => simp [kp_up_eq, hi]
    | some r => rfl
theorem kp_ST.kept {X : kp_X} {A : Nat → Prop} {U : State} {H H1 : Heap} (h : kp_ST X A U H) (hq : ∀ a : Nat, a < H.size → ¬ A a → H1[a]? = H[a]?) : kp_ST X A U H1 := by
  obtain ⟨h1, h2, h3, h4, h5, h6, h7⟩ := h
  refine ⟨fun i hi => ⟨(h1 i hi).1.kept hq, (h1 i hi).2.kept hq⟩, h2.kept hq, h3.kept hq, h4.kept hq, h5, h6, h7⟩
theorem kp_ST.warm {X : kp_X} {A : Nat → Prop} {u U : State} {H : Heap} (hW : u.WarmedH U.vm) (h : kp_ST X A u H) : kp_ST X A U H := by
  obtain ⟨h1, h2, h3, h4, h5, h6, h7⟩ := h
  refine ⟨fun i hi => ⟨(h1 i hi).1.moved hW.alike, (h1 i hi).2.moved hW.alike⟩, h2.moved hW.alike, h3.moved hW.alike, h4.moved hW.alike, fun q hq => (h5 q hq).warm hW, fun q hq => (h6 q hq).warmM hW, fun q hq => (h7 q hq).warmF hW⟩
theorem kp_ST.same {X : kp_X} {A : Nat → Prop} {u U : State} {H : Heap} (hv : U.vm = u.vm) (h : kp_ST X A u H) : kp_ST X A U H := by
  obtain ⟨h1, h2, h3, h4, h5, h6, h7⟩ := h
  have ha : u.vm.Alike U.vm := by rw [hv]; exact Vm.Alike.refl u.vm
  refine ⟨fun i hi => ⟨(h1 i hi).1.moved ha, (h1 i hi).2.moved ha⟩, h2.moved ha, h3.moved ha, h4.moved ha, fun q hq => (h5 q hq).same hv, fun q hq => (h6 q hq).same rfl hv.symm, fun q hq => (h7 q hq).same rfl hv.symm⟩
theorem kp_B_blind {X : kp_X} {lay : Nat → kp_D} {N : Nat} {σ : kp_W} {av : List Value} : FrameBlind (va_Pc av (kp_B X lay N σ)) := by
  intro a U g mk h
  obtain ⟨h1, hP, hK, hi, hT⟩ := h
  exact ⟨h1, hP, va_K.moved (u := U) (U := U.calling g mk a) (Vm.Alike.refl U.vm) hK, hi, hT.same (u := U) (U := U.calling g mk a) rfl⟩
theorem kp_B_of {X : kp_X} {lay : Nat → kp_D} {N : Nat} {s U : State} {σ : kp_W} {H : Heap} {locs : List Loc} (G : kp_G X N s) (h : kp_H X lay N s σ H locs) (hU : U.heap = H) (hW : s.WarmedH U.vm) : kp_B X lay N σ U := by
  refine ⟨by rw [hU]; exact h.1, va_K.moved hW.alike G.1, G.2.1, ?_⟩
  rw [hU]
  exact (G.2.2.warm hW).kept (fun a ha hA => h.2.2.1 a ha hA)
end
section
section KPR
variable {p : Program} {l : Launch} {e : Env} {R : Room} {s : State} {m : MethodId} {args : Array Value} {below : List Frame} {meth : Method} {c : Code} {H : Heap} {locs : List Loc} {Q : State → Prop}
variable {cc : ByteArray} {nL : Nat} {own : String} {pc : Nat} {ls : Array Slot} {rest : List Value} {X : kp_X} {lay : Nat → kp_D} {N : Nat} {σ : kp_W} {o : Int × kp_W}

theorem kp_iconst (C : CallFix p m c cc nL s args kp_wl own) {n : Int} (hdg : decode cc pc = .ok (.iconst n, 1)) (k : W p l e R s m args below meth c H locs 0 0 Q (F0 m (pc + 1) ls (kp_iv n :: rest))) : W p l e R s m args below meth c H locs 0 0 Q (F0 m pc ls rest) := lv_iconst C.1 C.2.1 hdg rfl k
theorem kp_bipush (C : CallFix p m c cc nL s args kp_wl own) {n : Int} (hdg : decode cc pc = .ok (.bipush n, 2)) (hv : (Int8.ofInt n).toInt32 = Int32.ofInt n) (k : W p l e R s m args below meth c H locs 0 0 Q (F0 m (pc + 2) ls (kp_iv n :: rest))) : W p l e R s m args below meth c H locs 0 0 Q (F0 m pc ls rest) := lv_bipush C.1 C.2.1 hdg hv k
theorem kp_sipush (C : CallFix p m c cc nL s args kp_wl own) {n : Int} (hdg : decode cc pc = .ok (.sipush n, 3)) (hv : (Int16.ofInt n).toInt32 = Int32.ofInt n) (k : W p l e R s m args below meth c H locs 0 0 Q (F0 m (pc + 3) ls (kp_iv n :: rest))) : W p l e R s m args below meth c H locs 0 0 Q (F0 m pc ls rest) := lv_sipush C.1 C.2.1 hdg hv k
theorem kp_lconst (C : CallFix p m c cc nL s args kp_wl own) {n : Fin 2} {v : Int} (hdg : decode cc pc = .ok (.lconst n, 1)) (hv : Int64.ofNat (n : Nat) = Int64.ofInt v) (k : W p l e R s m args below meth c H locs 0 0 Q (F0 m (pc + 1) ls (kp_jv v :: rest))) : W p l e R s m args below meth c H locs 0 0 Q (F0 m pc ls rest) := lv_lconst C.1 C.2.1 hdg hv k
theorem kp_ldc2 (C : CallFix p m c cc nL s args kp_wl own) {index : Nat} {v : Int64} {n : Int} (hq : Cond.constantLong own index v ∈ kp_wl) (hv : v = Int64.ofInt n) (hdg : decode cc pc = .ok (.ldc2_w index, 3)) (k : W p l e R s m args below meth c H locs 0 0 Q (F0 m (pc + 3) ls (kp_jv n :: rest))) : W p l e R s m args below meth c H locs 0 0 Q (F0 m pc ls rest) := lv_ldc2 C.1 C.2.1 C.2.2.2.1 (C.2.2.2.2 _ hq) hdg (by rw [hv]; exact k)
theorem kp_iload (C : CallFix p m c cc nL s args kp_wl own) {i : Nat} {x : Int} (hdg : decode cc pc = .ok (.iload i, 2)) (hl : ls[i]? = some (.val (kp_iv x))) (k : W p l e R s m args below meth c H locs 0 0 Q (F0 m (pc + 2) ls (kp_iv x :: rest))) : W p l e R s m args below meth c H locs 0 0 Q (F0 m pc ls rest) := lv_iload C.1 C.2.1 hdg hl k
theorem kp_iload_n (C : CallFix p m c cc nL s args kp_wl own) {j : Fin 4} {i : Nat} {x : Int} (hdg : decode cc pc = .ok (.iload_n j, 1)) (hi : (j : Nat) = i) (hl : ls[i]? = some (.val (kp_iv x))) (k : W p l e R s m args below meth c H locs 0 0 Q (F0 m (pc + 1) ls (kp_iv x :: rest))) : W p l e R s m args below meth c H locs 0 0 Q (F0 m pc ls rest) := lv_iload_n C.1 C.2.1 hdg hi hl k
theorem kp_lload (C : CallFix p m c cc nL s args kp_wl own) {i : Nat} {x : Int} (hdg : decode cc pc = .ok (.lload i, 2)) (hl : ls[i]? = some (.val (kp_jv x))) (k : W p l e R s m args below meth c H locs 0 0 Q (F0 m (pc + 2) ls (kp_jv x :: rest))) : W p l e R s m args below meth c H locs 0 0 Q (F0 m pc ls rest) := lv_lload C.1 C.2.1 hdg hl k
theorem kp_lload_n (C : CallFix p m c cc nL s args kp_wl own) {j : Fin 4} {i : Nat} {x : Int} (hdg : decode cc pc = .ok (.lload_n j, 1)) (hi : (j : Nat) = i) (hl : ls[i]? = some (.val (kp_jv x))) (k : W p l e R s m args below meth c H locs 0 0 Q (F0 m (pc + 1) ls (kp_jv x :: rest))) : W p l e R s m args below meth c H locs 0 0 Q (F0 m pc ls rest) := lv_lload_n C.1 C.2.1 hdg hi hl k
theorem kp_aload (C : CallFix p m c cc nL s args kp_wl own) {i : Nat} {x : Nat} (hdg : decode cc pc = .ok (.aload i, 2)) (hl : ls[i]? = some (.val (.ref x))) (k : W p l e R s m args below meth c H locs 0 0 Q (F0 m (pc + 2) ls (.ref x :: rest))) : W p l e R s m args below meth c H locs 0 0 Q (F0 m pc ls rest) := lv_aload C.1 C.2.1 hdg hl k
theorem kp_aload_n (C : CallFix p m c cc nL s args kp_wl own) {j : Fin 4} {i : Nat} {x : Nat} (hdg : decode cc pc = .ok (.aload_n j, 1)) (hi : (j : Nat) = i) (hl : ls[i]? = some (.val (.ref x))) (k : W p l e R s m args below meth c H locs 0 0 Q (F0 m (pc + 1) ls (.ref x :: rest))) : W p l e R s m args below meth c H locs 0 0 Q (F0 m pc ls rest) := lv_aload_n C.1 C.2.1 hdg hi hl k
theorem kp_istore (C : CallFix p m c cc nL s args kp_wl own) {i : Nat} {v : Int} {f : Int → kp_R} {lv : List (Nat × Value)} {lv' : Int → List (Nat × Value)} (hdg : decode cc pc = .ok (.istore i, 2)) (hl : lv_has ls nL lv) (hn : i < nL) (he : ∀ x : Int, (i, kp_iv x) :: lv.filter (fun q => !(q.1 == i) && !(q.1 + 1 == i && q.2.category == 2)) = lv' x) (hF : kp_lt v f = some o) (kk : ∀ (x : Int) (ls' : Array Slot), lv_has ls' nL (lv' x) → f x = some o → W p l e R s m args below meth c H locs 0 0 Q (F0 m (pc + 2) ls' rest)) : W p l e R s m args below meth c H locs 0 0 Q (F0 m pc ls (kp_iv v :: rest)) := lv_istore C.1 C.2.1 hdg hl hn (he v) (fun ls' hl' => kk v ls' hl' hF)
theorem kp_istore_n (C : CallFix p m c cc nL s args kp_wl own) {j : Fin 4} {i : Nat} {v : Int} {f : Int → kp_R} {lv : List (Nat × Value)} {lv' : Int → List (Nat × Value)} (hdg : decode cc pc = .ok (.istore_n j, 1)) (hi : (j : Nat) = i) (hl : lv_has ls nL lv) (hn : i < nL) (he : ∀ x : Int, (i, kp_iv x) :: lv.filter (fun q => !(q.1 == i) && !(q.1 + 1 == i && q.2.category == 2)) = lv' x) (hF : kp_lt v f = some o) (kk : ∀ (x : Int) (ls' : Array Slot), lv_has ls' nL (lv' x) → f x = some o → W p l e R s m args below meth c H locs 0 0 Q (F0 m (pc + 1) ls' rest)) : W p l e R s m args below meth c H locs 0 0 Q (F0 m pc ls (kp_iv v :: rest)) := lv_istore_n C.1 C.2.1 hdg hi hl hn (he v) (fun ls' hl' => kk v ls' hl' hF)
theorem kp_lstore (C : CallFix p m c cc nL s args kp_wl own) {i : Nat} {v : Int} {f : Int → kp_R} {lv : List (Nat × Value)} {lv' : Int → List (Nat × Value)} (hdg : decode cc pc = .ok (.lstore i, 2)) (hl : lv_has ls nL lv) (hn : i + 1 < nL) (he : ∀ x : Int, (i, kp_jv x) :: lv.filter (fun q => !(q.1 == i) && (!(q.1 == i + 1) && !(q.1 + 1 == i && q.2.category == 2))) = lv' x) (hF : kp_lt v f = some o) (kk : ∀ (x : Int) (ls' : Array Slot), lv_has ls' nL (lv' x) → f x = some o → W p l e R s m args below meth c H locs 0 0 Q (F0 m (pc + 2) ls' rest)) : W p l e R s m args below meth c H locs 0 0 Q (F0 m pc ls (kp_jv v :: rest)) := lv_lstore C.1 C.2.1 hdg hl hn (he v) (fun ls' hl' => kk v ls' hl' hF)
theorem kp_lstore_n (C : CallFix p m c cc nL s args kp_wl own) {j : Fin 4} {i : Nat} {v : Int} {f : Int → kp_R} {lv : List (Nat × Value)} {lv' : Int → List (Nat × Value)} (hdg : decode cc pc = .ok (.lstore_n j, 1)) (hi : (j : Nat) = i) (hl : lv_has ls nL lv) (hn : i + 1 < nL) (he : ∀ x : Int, (i, kp_jv x) :: lv.filter (fun q => !(q.1 == i) && (!(q.1 == i + 1) && !(q.1 + 1 == i && q.2.category == 2))) = lv' x) (hF : kp_lt v f = some o) (kk : ∀ (x : Int) (ls' : Array Slot), lv_has ls' nL (lv' x) → f x = some o → W p l e R s m args below meth c H locs 0 0 Q (F0 m (pc + 1) ls' rest)) : W p l e R s m args below meth c H locs 0 0 Q (F0 m pc ls (kp_jv v :: rest)) := lv_lstore_n C.1 C.2.1 hdg hi hl hn (he v) (fun ls' hl' => kk v ls' hl' hF)
theorem kp_astore_n (C : CallFix p m c cc nL s args kp_wl own) {j : Fin 4} {i : Nat} {x : Nat} {lv lv' : List (Nat × Value)} (hdg : decode cc pc = .ok (.astore_n j, 1)) (hi : (j : Nat) = i) (hl : lv_has ls nL lv) (hn : i < nL) (he : (i, Value.ref x) :: lv.filter (fun q => !(q.1 == i) && !(q.1 + 1 == i && q.2.category == 2)) = lv') (kk : ∀ ls' : Array Slot, lv_has ls' nL lv' → W p l e R s m args below meth c H locs 0 0 Q (F0 m (pc + 1) ls' rest)) : W p l e R s m args below meth c H locs 0 0 Q (F0 m pc ls (.ref x :: rest)) := lv_astore_n C.1 C.2.1 hdg hi hl hn he kk
theorem kp_iinc (C : CallFix p m c cc nL s args kp_wl own) {i k : Nat} {n v : Int} {f : Int → kp_R} {lv : List (Nat × Value)} {lv' : Int → List (Nat × Value)} (hdg : decode cc pc = .ok (.iinc i n, 3)) (hl : lv_has ls nL lv) (hk : lv[k]? = some (i, kp_iv v)) (hn : i < nL) (he : ∀ x : Int, (i, kp_iv x) :: lv.filter (fun q => !(q.1 == i) && !(q.1 + 1 == i && q.2.category == 2)) = lv' x) (hF : kp_lt (v + n) f = some o) (kk : ∀ (x : Int) (ls' : Array Slot), lv_has ls' nL (lv' x) → f x = some o → W p l e R s m args below meth c H locs 0 0 Q (F0 m (pc + 3) ls' rest)) : W p l e R s m args below meth c H locs 0 0 Q (F0 m pc ls rest) := lv_iinc C.1 C.2.1 hdg hl hk (Int32.ofInt_add v n).symm hn (he (v + n)) (fun ls' hl' => kk _ ls' hl' hF)
theorem kp_iadd (C : CallFix p m c cc nL s args kp_wl own) {x y : Int} (hdg : decode cc pc = .ok (.iadd, 1)) (k : W p l e R s m args below meth c H locs 0 0 Q (F0 m (pc + 1) ls (kp_iv (x + y) :: rest))) : W p l e R s m args below meth c H locs 0 0 Q (F0 m pc ls (kp_iv y :: kp_iv x :: rest)) := lv_iadd C.1 C.2.1 hdg (by have k := k; unfold kp_iv at k; rw [(Int32.ofInt_add x y)] at k; exact k)
theorem kp_isub (C : CallFix p m c cc nL s args kp_wl own) {x y : Int} (hdg : decode cc pc = .ok (.isub, 1)) (k : W p l e R s m args below meth c H locs 0 0 Q (F0 m (pc + 1) ls (kp_iv (x - y) :: rest))) : W p l e R s m args below meth c H locs 0 0 Q (F0 m pc ls (kp_iv y :: kp_iv x :: rest)) := lv_isub C.1 C.2.1 hdg (by have k := k; unfold kp_iv at k; rw [(Int32.ofInt_sub x y)] at k; exact k)
theorem kp_imul (C : CallFix p m c cc nL s args kp_wl own) {x y : Int} (hdg : decode cc pc = .ok (.imul, 1)) (k : W p l e R s m args below meth c H locs 0 0 Q (F0 m (pc + 1) ls (kp_iv (x * y) :: rest))) : W p l e R s m args below meth c H locs 0 0 Q (F0 m pc ls (kp_iv y :: kp_iv x :: rest)) := lv_imul C.1 C.2.1 hdg (by have k := k; unfold kp_iv at k; rw [(Int32.ofInt_mul x y)] at k; exact k)
theorem kp_xiand (C : CallFix p m c cc nL s args kp_wl own) {x y : Int} (hdg : decode cc pc = .ok (.iand, 1)) (k : W p l e R s m args below meth c H locs 0 0 Q (F0 m (pc + 1) ls (kp_iv (kp_and x y) :: rest))) : W p l e R s m args below meth c H locs 0 0 Q (F0 m pc ls (kp_iv y :: kp_iv x :: rest)) := lv_iand C.1 C.2.1 hdg (by have k := k; unfold kp_iv at k; rw [(kp_and_i x y).symm] at k; exact k)
theorem kp_xior (C : CallFix p m c cc nL s args kp_wl own) {x y : Int} (hdg : decode cc pc = .ok (.ior, 1)) (k : W p l e R s m args below meth c H locs 0 0 Q (F0 m (pc + 1) ls (kp_iv (kp_or x y) :: rest))) : W p l e R s m args below meth c H locs 0 0 Q (F0 m pc ls (kp_iv y :: kp_iv x :: rest)) := lv_ior C.1 C.2.1 hdg (by have k := k; unfold kp_iv at k; rw [(kp_or_i x y).symm] at k; exact k)
theorem kp_xixor (C : CallFix p m c cc nL s args kp_wl own) {x y : Int} (hdg : decode cc pc = .ok (.ixor, 1)) (k : W p l e R s m args below meth c H locs 0 0 Q (F0 m (pc + 1) ls (kp_iv (kp_xor x y) :: rest))) : W p l e R s m args below meth c H locs 0 0 Q (F0 m pc ls (kp_iv y :: kp_iv x :: rest)) := lv_ixor C.1 C.2.1 hdg (by have k := k; unfold kp_iv at k; rw [(kp_xor_i x y).symm] at k; exact k)
theorem kp_xladd (C : CallFix p m c cc nL s args kp_wl own) {x y : Int} (hdg : decode cc pc = .ok (.ladd, 1)) (k : W p l e R s m args below meth c H locs 0 0 Q (F0 m (pc + 1) ls (kp_jv (x + y) :: rest))) : W p l e R s m args below meth c H locs 0 0 Q (F0 m pc ls (kp_jv y :: kp_jv x :: rest)) := lv_ladd C.1 C.2.1 hdg (by have k := k; unfold kp_jv at k; rw [(Int64.ofInt_add x y)] at k; exact k)
theorem kp_xlsub (C : CallFix p m c cc nL s args kp_wl own) {x y : Int} (hdg : decode cc pc = .ok (.lsub, 1)) (k : W p l e R s m args below meth c H locs 0 0 Q (F0 m (pc + 1) ls (kp_jv (x - y) :: rest))) : W p l e R s m args below meth c H locs 0 0 Q (F0 m pc ls (kp_jv y :: kp_jv x :: rest)) := lv_lsub C.1 C.2.1 hdg (by have k := k; unfold kp_jv at k; rw [(Int64.ofInt_sub x y)] at k; exact k)
theorem kp_xland (C : CallFix p m c cc nL s args kp_wl own) {x y : Int} (hdg : decode cc pc = .ok (.land, 1)) (k : W p l e R s m args below meth c H locs 0 0 Q (F0 m (pc + 1) ls (kp_jv (kp_andL x y) :: rest))) : W p l e R s m args below meth c H locs 0 0 Q (F0 m pc ls (kp_jv y :: kp_jv x :: rest)) := lv_land C.1 C.2.1 hdg (by have k := k; unfold kp_jv at k; rw [(kp_and_l x y).symm] at k; exact k)
theorem kp_xlor (C : CallFix p m c cc nL s args kp_wl own) {x y : Int} (hdg : decode cc pc = .ok (.lor, 1)) (k : W p l e R s m args below meth c H locs 0 0 Q (F0 m (pc + 1) ls (kp_jv (kp_orL x y) :: rest))) : W p l e R s m args below meth c H locs 0 0 Q (F0 m pc ls (kp_jv y :: kp_jv x :: rest)) := lv_lor C.1 C.2.1 hdg (by have k := k; unfold kp_jv at k; rw [(kp_or_l x y).symm] at k; exact k)
theorem kp_xlxor (C : CallFix p m c cc nL s args kp_wl own) {x y : Int} (hdg : decode cc pc = .ok (.lxor, 1)) (k : W p l e R s m args below meth c H locs 0 0 Q (F0 m (pc + 1) ls (kp_jv (kp_xorL x y) :: rest))) : W p l e R s m args below meth c H locs 0 0 Q (F0 m pc ls (kp_jv y :: kp_jv x :: rest)) := lv_lxor C.1 C.2.1 hdg (by have k := k; unfold kp_jv at k; rw [(kp_xor_l x y).symm] at k; exact k)
theorem kp_ineg (C : CallFix p m c cc nL s args kp_wl own) {x : Int} (hdg : decode cc pc = .ok (.ineg, 1)) (k : W p l e R s m args below meth c H locs 0 0 Q (F0 m (pc + 1) ls (kp_iv (-x) :: rest))) : W p l e R s m args below meth c H locs 0 0 Q (F0 m pc ls (kp_iv x :: rest)) := lv_ineg C.1 C.2.1 hdg (by have k := k; unfold kp_iv at k; rw [Int32.ofInt_neg] at k; exact k)
theorem kp_idiv (C : CallFix p m c cc nL s args kp_wl own) {x y : Int} {r : kp_R} (hdg : decode cc pc = .ok (.idiv, 1)) (hF : kp_ck (0 ≤ x ∧ x ≤ 2147483647 ∧ 0 < y ∧ y ≤ 2147483647) r = some o) (k : r = some o → W p l e R s m args below meth c H locs 0 0 Q (F0 m (pc + 1) ls (kp_iv (x / y) :: rest))) : W p l e R s m args below meth c H locs 0 0 Q (F0 m pc ls (kp_iv y :: kp_iv x :: rest)) := by
  obtain ⟨a, hF⟩ := kp_ck_s hF
  have k := k hF
  unfold kp_iv at k
  rw [← kp_div ⟨a.1, a.2.1⟩ a.2.2] at k
  exact lv_idiv C.1 C.2.1 hdg (by rw [kp_0, kp_eq_i ⟨by omega, by omega⟩ kp_in0]; omega) k
theorem kp_irem (C : CallFix p m c cc nL s args kp_wl own) {x y : Int} {r : kp_R} (hdg : decode cc pc = .ok (.irem, 1)) (hF : kp_ck (0 ≤ x ∧ x ≤ 2147483647 ∧ 0 < y ∧ y ≤ 2147483647) r = some o) (k : r = some o → W p l e R s m args below meth c H locs 0 0 Q (F0 m (pc + 1) ls (kp_iv (x % y) :: rest))) : W p l e R s m args below meth c H locs 0 0 Q (F0 m pc ls (kp_iv y :: kp_iv x :: rest)) := by
  obtain ⟨a, hF⟩ := kp_ck_s hF
  have k := k hF
  unfold kp_iv at k
  rw [← kp_rem ⟨a.1, a.2.1⟩ a.2.2] at k
  exact lv_irem C.1 C.2.1 hdg (by rw [kp_0, kp_eq_i ⟨by omega, by omega⟩ kp_in0]; omega) k
theorem kp_xishl (C : CallFix p m c cc nL s args kp_wl own) {x y : Int} {r : kp_R} (hdg : decode cc pc = .ok (.ishl, 1)) (hF : kp_ck (0 ≤ y ∧ y < 32) r = some o) (k : r = some o → W p l e R s m args below meth c H locs 0 0 Q (F0 m (pc + 1) ls (kp_iv (x * 2 ^ y.toNat) :: rest))) : W p l e R s m args below meth c H locs 0 0 Q (F0 m pc ls (kp_iv y :: kp_iv x :: rest)) := by
  obtain ⟨a, hF⟩ := kp_ck_s hF
  have k := k hF
  unfold kp_iv at k
  rw [← kp_ishl a] at k
  exact lv_ishl C.1 C.2.1 hdg k
theorem kp_xishr (C : CallFix p m c cc nL s args kp_wl own) {x y : Int} {r : kp_R} (hdg : decode cc pc = .ok (.ishr, 1)) (hF : kp_ck (kp_in x ∧ 0 ≤ y ∧ y < 32) r = some o) (k : r = some o → W p l e R s m args below meth c H locs 0 0 Q (F0 m (pc + 1) ls (kp_iv (x / 2 ^ y.toNat) :: rest))) : W p l e R s m args below meth c H locs 0 0 Q (F0 m pc ls (kp_iv y :: kp_iv x :: rest)) := by
  obtain ⟨a, hF⟩ := kp_ck_s hF
  have k := k hF
  unfold kp_iv at k
  rw [← kp_ishr a.1 a.2] at k
  exact lv_ishr C.1 C.2.1 hdg k
theorem kp_xlshl (C : CallFix p m c cc nL s args kp_wl own) {x y : Int} {r : kp_R} (hdg : decode cc pc = .ok (.lshl, 1)) (hF : kp_ck (0 ≤ y ∧ y < 64) r = some o) (k : r = some o → W p l e R s m args below meth c H locs 0 0 Q (F0 m (pc + 1) ls (kp_jv (x * 2 ^ y.toNat) :: rest))) : W p l e R s m args below meth c H locs 0 0 Q (F0 m pc ls (kp_iv y :: kp_jv x :: rest)) := by
  obtain ⟨a, hF⟩ := kp_ck_s hF
  exact lv_lshl C.1 C.2.1 hdg (kp_lshl a) (k hF)
theorem kp_xlshr (C : CallFix p m c cc nL s args kp_wl own) {x y : Int} {r : kp_R} (hdg : decode cc pc = .ok (.lshr, 1)) (hF : kp_ck (kp_inL x ∧ 0 ≤ y ∧ y < 64) r = some o) (k : r = some o → W p l e R s m args below meth c H locs 0 0 Q (F0 m (pc + 1) ls (kp_jv (x / 2 ^ y.toNat) :: rest))) : W p l e R s m args below meth c H locs 0 0 Q (F0 m pc ls (kp_iv y :: kp_jv x :: rest)) := by
  obtain ⟨a, hF⟩ := kp_ck_s hF
  exact lv_lshr C.1 C.2.1 hdg (kp_lshr a.1 a.2) (k hF)
theorem kp_xlcmp (C : CallFix p m c cc nL s args kp_wl own) {x y : Int} {r : kp_R} (hdg : decode cc pc = .ok (.lcmp, 1)) (hF : kp_ck (kp_inL x ∧ kp_inL y) r = some o) (k : r = some o → W p l e R s m args below meth c H locs 0 0 Q (F0 m (pc + 1) ls (kp_iv (kp_cmp x y) :: rest))) : W p l e R s m args below meth c H locs 0 0 Q (F0 m pc ls (kp_jv y :: kp_jv x :: rest)) := by
  obtain ⟨a, hF⟩ := kp_ck_s hF
  have k := k hF
  unfold kp_iv at k
  rw [← kp_lcmp a.1 a.2] at k
  exact W.lcmp C.1 C.2.1 hdg k
theorem kp_xi2l (C : CallFix p m c cc nL s args kp_wl own) {x : Int} {r : kp_R} (hdg : decode cc pc = .ok (.i2l, 1)) (hF : kp_ck (kp_in x) r = some o) (k : r = some o → W p l e R s m args below meth c H locs 0 0 Q (F0 m (pc + 1) ls (kp_jv x :: rest))) : W p l e R s m args below meth c H locs 0 0 Q (F0 m pc ls (kp_iv x :: rest)) := by
  obtain ⟨a, hF⟩ := kp_ck_s hF
  exact lv_i2l C.1 C.2.1 hdg (kp_i2l a) (k hF)
theorem kp_xl2i (C : CallFix p m c cc nL s args kp_wl own) {x : Int} (hdg : decode cc pc = .ok (.l2i, 1)) (k : W p l e R s m args below meth c H locs 0 0 Q (F0 m (pc + 1) ls (kp_iv x :: rest))) : W p l e R s m args below meth c H locs 0 0 Q (F0 m pc ls (kp_jv x :: rest)) := lv_l2i C.1 C.2.1 hdg Int64.toInt32_ofInt k
theorem kp_dup (C : CallFix p m c cc nL s args kp_wl own) {va : Value} (hdg : decode cc pc = .ok (.dup, 1)) (hc : va.category = 1) (k : W p l e R s m args below meth c H locs 0 0 Q (F0 m (pc + 1) ls (va :: va :: rest))) : W p l e R s m args below meth c H locs 0 0 Q (F0 m pc ls (va :: rest)) := lv_dup C.1 C.2.1 hdg hc k
theorem kp_dup_x1 (C : CallFix p m c cc nL s args kp_wl own) {va vb : Value} (hdg : decode cc pc = .ok (.dup_x1, 1)) (hc : va.category = 1) (hd : vb.category = 1) (k : W p l e R s m args below meth c H locs 0 0 Q (F0 m (pc + 1) ls (va :: vb :: va :: rest))) : W p l e R s m args below meth c H locs 0 0 Q (F0 m pc ls (va :: vb :: rest)) := lv_dup_x1 C.1 C.2.1 hdg hc hd k
theorem kp_icmp_eq (C : CallFix p m c cc nL s args kp_wl own) {x y : Int} {a b : kp_R} {off : Int} {tgt : Nat} (hdg : decode cc pc = .ok (.if_icmp .eq off, 3)) (ht : (pc : Int) + off = (tgt : Int)) (hF : kp_eq x y a b = some o) (kt : a = some o → W p l e R s m args below meth c H locs 0 0 Q (F0 m tgt ls rest)) (kf : b = some o → W p l e R s m args below meth c H locs 0 0 Q (F0 m (pc + 3) ls rest)) : W p l e R s m args below meth c H locs 0 0 Q (F0 m pc ls (kp_iv y :: kp_iv x :: rest)) := by
  obtain ⟨hx, hy, ha, hb⟩ := kp_eq_s hF
  exact lv_icmp_eq C.1 C.2.1 hdg ht (fun z => kt (ha ((kp_eq_i hx hy).mp z))) (fun z => kf (hb (fun q => z ((kp_eq_i hx hy).mpr q))))
theorem kp_icmp_ne (C : CallFix p m c cc nL s args kp_wl own) {x y : Int} {a b : kp_R} {off : Int} {tgt : Nat} (hdg : decode cc pc = .ok (.if_icmp .ne off, 3)) (ht : (pc : Int) + off = (tgt : Int)) (hF : kp_eq x y a b = some o) (kt : b = some o → W p l e R s m args below meth c H locs 0 0 Q (F0 m tgt ls rest)) (kf : a = some o → W p l e R s m args below meth c H locs 0 0 Q (F0 m (pc + 3) ls rest)) : W p l e R s m args below meth c H locs 0 0 Q (F0 m pc ls (kp_iv y :: kp_iv x :: rest)) := by
  obtain ⟨hx, hy, ha, hb⟩ := kp_eq_s hF
  exact lv_icmp_ne C.1 C.2.1 hdg ht (fun z => kt (hb (fun q => z ((kp_eq_i hx hy).mpr q)))) (fun z => kf (ha ((kp_eq_i hx hy).mp z)))
theorem kp_icmp_lt (C : CallFix p m c cc nL s args kp_wl own) {x y : Int} {a b : kp_R} {off : Int} {tgt : Nat} (hdg : decode cc pc = .ok (.if_icmp .lt off, 3)) (ht : (pc : Int) + off = (tgt : Int)) (hF : kp_ls x y a b = some o) (kt : a = some o → W p l e R s m args below meth c H locs 0 0 Q (F0 m tgt ls rest)) (kf : b = some o → W p l e R s m args below meth c H locs 0 0 Q (F0 m (pc + 3) ls rest)) : W p l e R s m args below meth c H locs 0 0 Q (F0 m pc ls (kp_iv y :: kp_iv x :: rest)) := by
  obtain ⟨hx, hy, ha, hb⟩ := kp_ls_s hF
  exact lv_icmp_lt C.1 C.2.1 hdg ht (fun z => kt (ha ((kp_lt_i hx hy).mp z))) (fun z => kf (hb (fun q => z ((kp_lt_i hx hy).mpr q))))
theorem kp_icmp_ge (C : CallFix p m c cc nL s args kp_wl own) {x y : Int} {a b : kp_R} {off : Int} {tgt : Nat} (hdg : decode cc pc = .ok (.if_icmp .ge off, 3)) (ht : (pc : Int) + off = (tgt : Int)) (hF : kp_ls x y a b = some o) (kt : b = some o → W p l e R s m args below meth c H locs 0 0 Q (F0 m tgt ls rest)) (kf : a = some o → W p l e R s m args below meth c H locs 0 0 Q (F0 m (pc + 3) ls rest)) : W p l e R s m args below meth c H locs 0 0 Q (F0 m pc ls (kp_iv y :: kp_iv x :: rest)) := by
  obtain ⟨hx, hy, ha, hb⟩ := kp_ls_s hF
  exact lv_icmp_ge C.1 C.2.1 hdg ht (fun z => kt (hb (Int.not_lt.mpr ((kp_le_i hy hx).mp z)))) (fun z => kf (ha (Int.not_le.mp (fun q => z ((kp_le_i hy hx).mpr q)))))
theorem kp_icmp_gt (C : CallFix p m c cc nL s args kp_wl own) {x y : Int} {a b : kp_R} {off : Int} {tgt : Nat} (hdg : decode cc pc = .ok (.if_icmp .gt off, 3)) (ht : (pc : Int) + off = (tgt : Int)) (hF : kp_ls y x a b = some o) (kt : a = some o → W p l e R s m args below meth c H locs 0 0 Q (F0 m tgt ls rest)) (kf : b = some o → W p l e R s m args below meth c H locs 0 0 Q (F0 m (pc + 3) ls rest)) : W p l e R s m args below meth c H locs 0 0 Q (F0 m pc ls (kp_iv y :: kp_iv x :: rest)) := by
  obtain ⟨hx, hy, ha, hb⟩ := kp_ls_s hF
  exact lv_icmp_gt C.1 C.2.1 hdg ht (fun z => kt (ha ((kp_lt_i hx hy).mp z))) (fun z => kf (hb (fun q => z ((kp_lt_i hx hy).mpr q))))
theorem kp_icmp_le (C : CallFix p m c cc nL s args kp_wl own) {x y : Int} {a b : kp_R} {off : Int} {tgt : Nat} (hdg : decode cc pc = .ok (.if_icmp .le off, 3)) (ht : (pc : Int) + off = (tgt : Int)) (hF : kp_ls y x a b = some o) (kt : b = some o → W p l e R s m args below meth c H locs 0 0 Q (F0 m tgt ls rest)) (kf : a = some o → W p l e R s m args below meth c H locs 0 0 Q (F0 m (pc + 3) ls rest)) : W p l e R s m args below meth c H locs 0 0 Q (F0 m pc ls (kp_iv y :: kp_iv x :: rest)) := by
  obtain ⟨hx, hy, ha, hb⟩ := kp_ls_s hF
  exact lv_icmp_le C.1 C.2.1 hdg ht (fun z => kt (hb (Int.not_lt.mpr ((kp_le_i hy hx).mp z)))) (fun z => kf (ha (Int.not_le.mp (fun q => z ((kp_le_i hy hx).mpr q)))))
theorem kp_if_eq (C : CallFix p m c cc nL s args kp_wl own) {x y : Int} {a b : kp_R} {off : Int} {tgt : Nat} (hdg : decode cc pc = .ok (.ifCond .eq off, 3)) (ht : (pc : Int) + off = (tgt : Int)) (hF : kp_eq x 0 a b = some o) (kt : a = some o → W p l e R s m args below meth c H locs 0 0 Q (F0 m tgt ls rest)) (kf : b = some o → W p l e R s m args below meth c H locs 0 0 Q (F0 m (pc + 3) ls rest)) : W p l e R s m args below meth c H locs 0 0 Q (F0 m pc ls (kp_iv x :: rest)) := by
  obtain ⟨hx, hy, ha, hb⟩ := kp_eq_s hF
  exact lv_if_eq C.1 C.2.1 hdg ht (fun z => kt (ha ((kp_eq_i hx hy).mp z))) (fun z => kf (hb (fun q => z ((kp_eq_i hx hy).mpr q))))
theorem kp_if_ne (C : CallFix p m c cc nL s args kp_wl own) {x y : Int} {a b : kp_R} {off : Int} {tgt : Nat} (hdg : decode cc pc = .ok (.ifCond .ne off, 3)) (ht : (pc : Int) + off = (tgt : Int)) (hF : kp_eq x 0 a b = some o) (kt : b = some o → W p l e R s m args below meth c H locs 0 0 Q (F0 m tgt ls rest)) (kf : a = some o → W p l e R s m args below meth c H locs 0 0 Q (F0 m (pc + 3) ls rest)) : W p l e R s m args below meth c H locs 0 0 Q (F0 m pc ls (kp_iv x :: rest)) := by
  obtain ⟨hx, hy, ha, hb⟩ := kp_eq_s hF
  exact lv_if_ne C.1 C.2.1 hdg ht (fun z => kt (hb (fun q => z ((kp_eq_i hx hy).mpr q)))) (fun z => kf (ha ((kp_eq_i hx hy).mp z)))
theorem kp_if_lt (C : CallFix p m c cc nL s args kp_wl own) {x y : Int} {a b : kp_R} {off : Int} {tgt : Nat} (hdg : decode cc pc = .ok (.ifCond .lt off, 3)) (ht : (pc : Int) + off = (tgt : Int)) (hF : kp_ls x 0 a b = some o) (kt : a = some o → W p l e R s m args below meth c H locs 0 0 Q (F0 m tgt ls rest)) (kf : b = some o → W p l e R s m args below meth c H locs 0 0 Q (F0 m (pc + 3) ls rest)) : W p l e R s m args below meth c H locs 0 0 Q (F0 m pc ls (kp_iv x :: rest)) := by
  obtain ⟨hx, hy, ha, hb⟩ := kp_ls_s hF
  exact lv_if_lt C.1 C.2.1 hdg ht (fun z => kt (ha ((kp_lt_i hx hy).mp z))) (fun z => kf (hb (fun q => z ((kp_lt_i hx hy).mpr q))))
theorem kp_if_ge (C : CallFix p m c cc nL s args kp_wl own) {x y : Int} {a b : kp_R} {off : Int} {tgt : Nat} (hdg : decode cc pc = .ok (.ifCond .ge off, 3)) (ht : (pc : Int) + off = (tgt : Int)) (hF : kp_ls x 0 a b = some o) (kt : b = some o → W p l e R s m args below meth c H locs 0 0 Q (F0 m tgt ls rest)) (kf : a = some o → W p l e R s m args below meth c H locs 0 0 Q (F0 m (pc + 3) ls rest)) : W p l e R s m args below meth c H locs 0 0 Q (F0 m pc ls (kp_iv x :: rest)) := by
  obtain ⟨hx, hy, ha, hb⟩ := kp_ls_s hF
  exact lv_if_ge C.1 C.2.1 hdg ht (fun z => kt (hb (Int.not_lt.mpr ((kp_le_i hy hx).mp z)))) (fun z => kf (ha (Int.not_le.mp (fun q => z ((kp_le_i hy hx).mpr q)))))
theorem kp_if_gt (C : CallFix p m c cc nL s args kp_wl own) {x y : Int} {a b : kp_R} {off : Int} {tgt : Nat} (hdg : decode cc pc = .ok (.ifCond .gt off, 3)) (ht : (pc : Int) + off = (tgt : Int)) (hF : kp_ls 0 x a b = some o) (kt : a = some o → W p l e R s m args below meth c H locs 0 0 Q (F0 m tgt ls rest)) (kf : b = some o → W p l e R s m args below meth c H locs 0 0 Q (F0 m (pc + 3) ls rest)) : W p l e R s m args below meth c H locs 0 0 Q (F0 m pc ls (kp_iv x :: rest)) := by
  obtain ⟨hx, hy, ha, hb⟩ := kp_ls_s hF
  exact lv_if_gt C.1 C.2.1 hdg ht (fun z => kt (ha ((kp_lt_i hx hy).mp z))) (fun z => kf (hb (fun q => z ((kp_lt_i hx hy).mpr q))))
theorem kp_if_le (C : CallFix p m c cc nL s args kp_wl own) {x y : Int} {a b : kp_R} {off : Int} {tgt : Nat} (hdg : decode cc pc = .ok (.ifCond .le off, 3)) (ht : (pc : Int) + off = (tgt : Int)) (hF : kp_ls 0 x a b = some o) (kt : b = some o → W p l e R s m args below meth c H locs 0 0 Q (F0 m tgt ls rest)) (kf : a = some o → W p l e R s m args below meth c H locs 0 0 Q (F0 m (pc + 3) ls rest)) : W p l e R s m args below meth c H locs 0 0 Q (F0 m pc ls (kp_iv x :: rest)) := by
  obtain ⟨hx, hy, ha, hb⟩ := kp_ls_s hF
  exact lv_if_le C.1 C.2.1 hdg ht (fun z => kt (hb (Int.not_lt.mpr ((kp_le_i hy hx).mp z)))) (fun z => kf (ha (Int.not_le.mp (fun q => z ((kp_le_i hy hx).mpr q)))))
theorem kp_goto (C : CallFix p m c cc nL s args kp_wl own) {off : Int} {tgt : Nat} (hdg : decode cc pc = .ok (.goto off, 3)) (ht : (pc : Int) + off = (tgt : Int)) (k : W p l e R s m args below meth c H locs 0 0 Q (F0 m tgt ls rest)) : W p l e R s m args below meth c H locs 0 0 Q (F0 m pc ls rest) := lv_goto C.1 C.2.1 hdg ht k
theorem kp_obj {k ci : Nat} {rs : List (Option Nat)} (hL : k < N ∧ lay k = (0, ci, rs)) : (kp_ws X lay N σ)[k]? = some (kp_ad X k, .inr (ci, kp_fl (kp_ad X) (σ k) 0 rs)) := by
  rw [kp_ws_at hL.1, hL.2]
  rfl
theorem kp_arr {k n : Nat} {rs : List (Option Nat)} (hL : k < N ∧ lay k = (1, n, rs)) : (kp_ws X lay N σ)[k]? = some (kp_ad X k, .inl (kp_cy X 0, n, .inl fun j => Int32.ofInt (σ k j))) := by
  rw [kp_ws_at hL.1, hL.2]
  rfl
theorem kp_arrL {k n : Nat} {rs : List (Option Nat)} (hL : k < N ∧ lay k = (2, n, rs)) : (kp_ws X lay N σ)[k]? = some (kp_ad X k, .inl (kp_cy X 1, n, .inr (.inl fun j => Int64.ofInt (σ k j)))) := by
  rw [kp_ws_at hL.1, hL.2]
  rfl
theorem kp_arrZ {k n : Nat} {rs : List (Option Nat)} (hL : k < N ∧ lay k = (3, n, rs)) : (kp_ws X lay N σ)[k]? = some (kp_ad X k, .inl (kp_cy X 2, n, .inl fun j => Int32.ofInt (σ k j))) := by
  rw [kp_ws_at hL.1, hL.2]
  rfl
theorem kp_geti (C : CallFix p m c cc nL s args kp_wl own) (G : kp_G X N s) (h : kp_H X lay N s σ H locs) {C0 : String} {T : u_T} {Nf ci index k : Nat} {rs : List (Option Nat)} (hL : k < N ∧ lay k = (0, ci, rs)) (hc : vwCl[ci]? = some (C0, T, Nf)) (hin : ∀ w ∈ u_ws C0 T Nf, w ∈ kp_wl) {j : Nat} (hj : j < Nf) (hw : Cond.fieldLink own index (T j).1 (T j).2.1 (T j).2.2.1 ∈ kp_wl) (hr : rs[j]? = some none) (hdg : decode cc pc = .ok (.getfield index, 3)) (kk : W p l e R s m args below meth c H locs 0 0 Q (F0 m (pc + 3) ls (kp_iv (σ k j) :: rest))) : W p l e R s m args below meth c H locs 0 0 Q (F0 m pc ls (.ref (kp_ad X k) :: rest)) := by
  refine va_get C.1 C.2.1 C.2.2.2.2 hin C.2.2.2.1 G.1 h.1 k (kp_obj hL) hc j hj (C.2.2.2.2 _ hw) (fun _ z => z) (v := kp_iv (σ k j)) ?_ hdg kk
  rw [kp_fl_get, hr, Nat.zero_add]
  rfl
theorem kp_getr (C : CallFix p m c cc nL s args kp_wl own) (G : kp_G X N s) (h : kp_H X lay N s σ H locs) {C0 : String} {T : u_T} {Nf ci index k : Nat} {rs : List (Option Nat)} (hL : k < N ∧ lay k = (0, ci, rs)) (hc : vwCl[ci]? = some (C0, T, Nf)) (hin : ∀ w ∈ u_ws C0 T Nf, w ∈ kp_wl) {j r : Nat} (hj : j < Nf) (hw : Cond.fieldLink own index (T j).1 (T j).2.1 (T j).2.2.1 ∈ kp_wl) (hr : rs[j]? = some (some r)) (hdg : decode cc pc = .ok (.getfield index, 3)) (kk : W p l e R s m args below meth c H locs 0 0 Q (F0 m (pc + 3) ls (.ref (kp_ad X r) :: rest))) : W p l e R s m args below meth c H locs 0 0 Q (F0 m pc ls (.ref (kp_ad X k) :: rest)) := by
  refine va_get C.1 C.2.1 C.2.2.2.2 hin C.2.2.2.1 G.1 h.1 k (kp_obj hL) hc j hj (C.2.2.2.2 _ hw) (fun _ z => z) (v := .ref (kp_ad X r)) ?_ hdg kk
  rw [kp_fl_get, hr]
  rfl
theorem kp_puti (C : CallFix p m c cc nL s args kp_wl own) (G : kp_G X N s) (h : kp_H X lay N s σ H locs) {C0 : String} {T : u_T} {Nf ci index k : Nat} {rs : List (Option Nat)} (hL : k < N ∧ lay k = (0, ci, rs)) (hc : vwCl[ci]? = some (C0, T, Nf)) (hin : ∀ w ∈ u_ws C0 T Nf, w ∈ kp_wl) (ty0 : Nat → FieldType) (hty : ∀ k, k < Nf → parseFieldDescriptor (T k).2.2.1 = some (ty0 k)) (hnm : ∀ a, a < Nf → ∀ b, b < Nf → a ≠ b → (T a).2.1 ≠ (T b).2.1) {j : Nat} (hj : j < Nf) (hw : Cond.fieldLink own index (T j).1 (T j).2.1 (T j).2.2.1 ∈ kp_wl) (hr : rs[j]? = some none) (hfin : (T j).2.2.2 = false) (hd : parseFieldDescriptor (T j).2.2.1 = some .int) (hdg : decode cc pc = .ok (.putfield index, 3)) {x : Int} {f : kp_W → kp_R} (hF : kp_lt (kp_up σ k j x) f = some o) (kk : ∀ (σ' : kp_W) (H1 : Heap) (locs1 : List Loc), kp_H X lay N s σ' H1 locs1 → f σ' = some o → W p l e R s m args below meth c H1 locs1 0 0 Q (F0 m (pc + 3) ls rest)) : W p l e R s m args below meth c H locs 0 0 Q (F0 m pc ls (kp_iv x :: .ref (kp_ad X k) :: rest)) := by
  refine va_put C.1 C.2.1 C.2.2.2.2 hin ty0 hty hnm C.2.2.2.1 G.1 h.1 (kp_ws_D G.2.1) h.2 k (kp_obj hL) hc j hj (C.2.2.2.2 _ hw) (fun _ z => z) hfin (v := kp_iv x) hd rfl rfl (by rw [kp_fl_len]; exact (List.getElem?_eq_some_iff.mp hr).1) hdg (fun H1 locs1 hP _ hS => kk (kp_up σ k j x) H1 locs1 ⟨?_, hS⟩ hF)
  rw [kp_ws_set (σ' := kp_up σ k j x) hL.1 (by rw [hL.2]; show _ = Sum.inr _; rw [← kp_fl_set hr]; rfl) (fun _ hq => kp_up_ne hq)] at hP
  exact hP
theorem kp_putz (C : CallFix p m c cc nL s args kp_wl own) (G : kp_G X N s) (h : kp_H X lay N s σ H locs) {C0 : String} {T : u_T} {Nf ci index k : Nat} {rs : List (Option Nat)} (hL : k < N ∧ lay k = (0, ci, rs)) (hc : vwCl[ci]? = some (C0, T, Nf)) (hin : ∀ w ∈ u_ws C0 T Nf, w ∈ kp_wl) (ty0 : Nat → FieldType) (hty : ∀ k, k < Nf → parseFieldDescriptor (T k).2.2.1 = some (ty0 k)) (hnm : ∀ a, a < Nf → ∀ b, b < Nf → a ≠ b → (T a).2.1 ≠ (T b).2.1) {j : Nat} (hj : j < Nf) (hw : Cond.fieldLink own index (T j).1 (T j).2.1 (T j).2.2.1 ∈ kp_wl) (hr : rs[j]? = some none) (hfin : (T j).2.2.2 = false) (hd : parseFieldDescriptor (T j).2.2.1 = some .boolean) (hdg : decode cc pc = .ok (.putfield index, 3)) {x : Int} {f : kp_W → kp_R} (hF : kp_ck (x = 0 ∨ x = 1) (kp_lt (kp_up σ k j x) f) = some o) (kk : ∀ (σ' : kp_W) (H1 : Heap) (locs1 : List Loc), kp_H X lay N s σ' H1 locs1 → f σ' = some o → W p l e R s m args below meth c H1 locs1 0 0 Q (F0 m (pc + 3) ls rest)) : W p l e R s m args below meth c H locs 0 0 Q (F0 m pc ls (kp_iv x :: .ref (kp_ad X k) :: rest)) := by
  obtain ⟨hx, hF⟩ := kp_ck_s hF
  refine va_put C.1 C.2.1 C.2.2.2.2 hin ty0 hty hnm C.2.2.2.1 G.1 h.1 (kp_ws_D G.2.1) h.2 k (kp_obj hL) hc j hj (C.2.2.2.2 _ hw) (fun _ z => z) hfin (v := kp_iv x) hd (by rcases hx with rfl | rfl <;> rfl) (by rcases hx with rfl | rfl <;> rfl) (by rw [kp_fl_len]; exact (List.getElem?_eq_some_iff.mp hr).1) hdg (fun H1 locs1 hP _ hS => kk (kp_up σ k j x) H1 locs1 ⟨?_, hS⟩ hF)
  rw [kp_ws_set (σ' := kp_up σ k j x) hL.1 (by rw [hL.2]; show _ = Sum.inr _; rw [← kp_fl_set hr]; rfl) (fun _ hq => kp_up_ne hq)] at hP
  exact hP
theorem kp_iald (C : CallFix p m c cc nL s args kp_wl own) (G : kp_G X N s) (h : kp_H X lay N s σ H locs) {k : Nat} {n i : Int} {rs : List (Option Nat)} (hL : k < N ∧ lay k = (1, n.toNat, rs)) (hn : n ≤ 2147483647) {r : kp_R} (hdg : decode cc pc = .ok (.iaload, 1)) (hF : kp_ck (0 ≤ i ∧ i < n) r = some o) (kk : r = some o → W p l e R s m args below meth c H locs 0 0 Q (F0 m (pc + 1) ls (kp_iv (σ k i.toNat) :: rest))) : W p l e R s m args below meth c H locs 0 0 Q (F0 m pc ls (kp_iv i :: .ref (kp_ad X k) :: rest)) := by
  obtain ⟨a, hF⟩ := kp_ck_s hF
  have kk := kk hF
  unfold kp_iv at kk ⊢
  rw [← kp_clx a hn] at kk
  exact va_iald C.1 C.2.1 G.1 h.1 k 0 (kp_arr hL) rfl (kp_vin a hn) hdg kk
theorem kp_lald (C : CallFix p m c cc nL s args kp_wl own) (G : kp_G X N s) (h : kp_H X lay N s σ H locs) {k : Nat} {n i : Int} {rs : List (Option Nat)} (hL : k < N ∧ lay k = (2, n.toNat, rs)) (hn : n ≤ 2147483647) {r : kp_R} (hdg : decode cc pc = .ok (.laload, 1)) (hF : kp_ck (0 ≤ i ∧ i < n) r = some o) (kk : r = some o → W p l e R s m args below meth c H locs 0 0 Q (F0 m (pc + 1) ls (kp_jv (σ k i.toNat) :: rest))) : W p l e R s m args below meth c H locs 0 0 Q (F0 m pc ls (kp_iv i :: .ref (kp_ad X k) :: rest)) := by
  obtain ⟨a, hF⟩ := kp_ck_s hF
  have kk := kk hF
  unfold kp_jv at kk
  unfold kp_iv
  rw [← kp_clx a hn] at kk
  exact va_lald C.1 C.2.1 G.1 h.1 k 1 (kp_arrL hL) rfl (kp_vin a hn) hdg kk
theorem kp_zald (C : CallFix p m c cc nL s args kp_wl own) (G : kp_G X N s) (h : kp_H X lay N s σ H locs) {k : Nat} {n i : Int} {rs : List (Option Nat)} (hL : k < N ∧ lay k = (3, n.toNat, rs)) (hn : n ≤ 2147483647) {r : kp_R} (hdg : decode cc pc = .ok (.baload, 1)) (hF : kp_ck (0 ≤ i ∧ i < n) r = some o) (kk : r = some o → W p l e R s m args below meth c H locs 0 0 Q (F0 m (pc + 1) ls (kp_iv (σ k i.toNat) :: rest))) : W p l e R s m args below meth c H locs 0 0 Q (F0 m pc ls (kp_iv i :: .ref (kp_ad X k) :: rest)) := by
  obtain ⟨a, hF⟩ := kp_ck_s hF
  have kk := kk hF
  unfold kp_iv at kk ⊢
  rw [← kp_clx a hn] at kk
  exact va_zald C.1 C.2.1 G.1 h.1 k 2 (kp_arrZ hL) rfl (kp_vin a hn) hdg kk
theorem kp_updI {σ : kp_W} {k i : Nat} {x : Int} : upd (fun j => Int32.ofInt (σ k j)) i (Int32.ofInt x) = fun j => Int32.ofInt (kp_up σ k i x k j) := by
  funext j
  unfold upd
  rw [kp_up_eq]
  by_cases q : j = i
  · rw [if_pos q, if_pos q]
  · rw [if_neg q, if_neg q]
theorem kp_updJ {σ : kp_W} {k i : Nat} {x : Int} : vp_updL (fun j => Int64.ofInt (σ k j)) i (Int64.ofInt x) = fun j => Int64.ofInt (kp_up σ k i x k j) := by
  funext j
  unfold vp_updL
  rw [kp_up_eq]
  by_cases q : j = i
  · rw [if_pos q, if_pos q]
  · rw [if_neg q, if_neg q]
theorem kp_iast (C : CallFix p m c cc nL s args kp_wl own) (G : kp_G X N s) (h : kp_H X lay N s σ H locs) {k : Nat} {n i : Int} {rs : List (Option Nat)} (hL : k < N ∧ lay k = (1, n.toNat, rs)) (hn : n ≤ 2147483647) {x : Int} {f : kp_W → kp_R} (hdg : decode cc pc = .ok (.iastore, 1)) (hF : kp_ck (0 ≤ i ∧ i < n) (kp_lt (kp_up σ k i.toNat x) f) = some o) (kk : ∀ (σ' : kp_W) (H1 : Heap) (locs1 : List Loc), kp_H X lay N s σ' H1 locs1 → f σ' = some o → W p l e R s m args below meth c H1 locs1 0 0 Q (F0 m (pc + 1) ls rest)) : W p l e R s m args below meth c H locs 0 0 Q (F0 m pc ls (kp_iv x :: kp_iv i :: .ref (kp_ad X k) :: rest)) := by
  obtain ⟨a, hF⟩ := kp_ck_s hF
  refine va_iast C.1 C.2.1 G.1 h.1 (kp_ws_D G.2.1) h.2 k 0 (kp_arr hL) rfl (kp_vin a hn) hdg (fun H1 locs1 hP _ hS => kk (kp_up σ k i.toNat x) H1 locs1 ⟨?_, hS⟩ hF)
  rw [kp_clx a hn, kp_updI, kp_ws_set (σ' := kp_up σ k i.toNat x) hL.1 (by rw [hL.2]; rfl) (fun _ hq => kp_up_ne hq)] at hP
  exact hP
theorem kp_last (C : CallFix p m c cc nL s args kp_wl own) (G : kp_G X N s) (h : kp_H X lay N s σ H locs) {k : Nat} {n i : Int} {rs : List (Option Nat)} (hL : k < N ∧ lay k = (2, n.toNat, rs)) (hn : n ≤ 2147483647) {x : Int} {f : kp_W → kp_R} (hdg : decode cc pc = .ok (.lastore, 1)) (hF : kp_ck (0 ≤ i ∧ i < n) (kp_lt (kp_up σ k i.toNat x) f) = some o) (kk : ∀ (σ' : kp_W) (H1 : Heap) (locs1 : List Loc), kp_H X lay N s σ' H1 locs1 → f σ' = some o → W p l e R s m args below meth c H1 locs1 0 0 Q (F0 m (pc + 1) ls rest)) : W p l e R s m args below meth c H locs 0 0 Q (F0 m pc ls (kp_jv x :: kp_iv i :: .ref (kp_ad X k) :: rest)) := by
  obtain ⟨a, hF⟩ := kp_ck_s hF
  refine va_last C.1 C.2.1 G.1 h.1 (kp_ws_D G.2.1) h.2 k 1 (kp_arrL hL) rfl (kp_vin a hn) hdg (fun H1 locs1 hP _ hS => kk (kp_up σ k i.toNat x) H1 locs1 ⟨?_, hS⟩ hF)
  rw [kp_clx a hn, kp_updJ, kp_ws_set (σ' := kp_up σ k i.toNat x) hL.1 (by rw [hL.2]; rfl) (fun _ hq => kp_up_ne hq)] at hP
  exact hP
theorem kp_zast (C : CallFix p m c cc nL s args kp_wl own) (G : kp_G X N s) (h : kp_H X lay N s σ H locs) {k : Nat} {n i : Int} {rs : List (Option Nat)} (hL : k < N ∧ lay k = (3, n.toNat, rs)) (hn : n ≤ 2147483647) {x : Int} {f : kp_W → kp_R} (hdg : decode cc pc = .ok (.bastore, 1)) (hF : kp_ck (x = 0 ∨ x = 1) (kp_ck (0 ≤ i ∧ i < n) (kp_lt (kp_up σ k i.toNat x) f)) = some o) (kk : ∀ (σ' : kp_W) (H1 : Heap) (locs1 : List Loc), kp_H X lay N s σ' H1 locs1 → f σ' = some o → W p l e R s m args below meth c H1 locs1 0 0 Q (F0 m (pc + 1) ls rest)) : W p l e R s m args below meth c H locs 0 0 Q (F0 m pc ls (kp_iv x :: kp_iv i :: .ref (kp_ad X k) :: rest)) := by
  obtain ⟨hx, hF⟩ := kp_ck_s hF
  obtain ⟨a, hF⟩ := kp_ck_s hF
  have en : vp_nar .boolean (Int32.ofInt x) = Int32.ofInt x := by rcases hx with rfl | rfl <;> rfl
  refine va_zast C.1 C.2.1 G.1 h.1 (kp_ws_D G.2.1) h.2 k 2 (kp_arrZ hL) rfl (kp_vin a hn) hdg (fun H1 locs1 hP _ hS => kk (kp_up σ k i.toNat x) H1 locs1 ⟨?_, hS⟩ hF)
  rw [en, kp_clx a hn, kp_updI, kp_ws_set (σ' := kp_up σ k i.toNat x) hL.1 (by rw [hL.2]; rfl) (fun _ hq => kp_up_ne hq)] at hP
  exact hP
theorem kp_alen (C : CallFix p m c cc nL s args kp_wl own) (G : kp_G X N s) (h : kp_H X lay N s σ H locs) {k : Nat} {n : Int} {rs : List (Option Nat)} (hL : k < N ∧ lay k = (1, n.toNat, rs)) (hn : 0 ≤ n) (hdg : decode cc pc = .ok (.arraylength, 1)) (kk : W p l e R s m args below meth c H locs 0 0 Q (F0 m (pc + 1) ls (kp_iv n :: rest))) : W p l e R s m args below meth c H locs 0 0 Q (F0 m pc ls (.ref (kp_ad X k) :: rest)) := va_alen C.1 C.2.1 G.1 h.1 k 0 (kp_arr hL) (ty := .int) rfl (v := Int32.ofInt n) (by show Int32.ofNat n.toNat = _; rw [← Int32.ofInt_eq_ofNat, kp_toNat hn]) hdg kk
end KPR
end
section
def kp_rm (d : Nat) : Room := { frames := d, cells := 0, slots := 0, locals := 60 * d }
def kp_Qi (X : kp_X) (lay : Nat → kp_D) (N : Nat) (σ : kp_W) (r : Int) : Array Value → State → Outcome → State → Prop := va_Qi (fun r' (_ : Unit) => r' = Int32.ofInt r) (fun _ t => kp_B X lay N σ t) (kp_A X N)
def kp_Ql (X : kp_X) (lay : Nat → kp_D) (N : Nat) (σ : kp_W) (r : Int) : Array Value → State → Outcome → State → Prop := va_Ql (fun r' (_ : Unit) => r' = Int64.ofInt r) (fun _ t => kp_B X lay N σ t) (kp_A X N)
def kp_Qv (X : kp_X) (lay : Nat → kp_D) (N : Nat) (σ : kp_W) : Array Value → State → Outcome → State → Prop := va_Qv (fun (_ : Unit) => True) (fun _ t => kp_B X lay N σ t) (kp_A X N)
def kp_Met (l : Launch) (y : MethodName) (bytes : ByteArray) (maxL : Nat) (ret : Option FieldType) (d : Nat) (X : kp_X) (lay : Nat → kp_D) (N : Nat) (σ : kp_W) (av : List Value) (Qc : Array Value → State → Outcome → State → Prop) : Prop := Met l y (Cond.code y bytes maxL ret :: kp_wl) (kp_rm d) (va_Pc av (kp_B X lay N σ)) Qc 0 0 (kp_A X N)
theorem kp_body {l : Launch} {y : MethodName} {bytes : ByteArray} {maxL : Nat} {ret : Option FieldType} {d : Nat} {X : kp_X} {lay : Nat → kp_D} {N : Nat} {σ : kp_W} {av : List Value} {Qc : Array Value → State → Outcome → State → Prop} (hy : plainName y.cls = true) (hn : (lg_sl av).length ≤ maxL)
    (body : ∀ (p : Program) (e : Env) (s : State) (m : MethodId) (args : Array Value) (below : List Frame) (meth : Method) (c : Code) (ls : Array Slot), CallFix p m c bytes maxL s args kp_wl y.cls → meth.sig.returnType = ret → meth.locks = false → kp_G X N s → kp_H X lay N s σ s.heap [] → lv_has ls maxL (lv_args 0 av) → W p l e (kp_rm d) s m args below meth c s.heap [] 0 0 (MQ below Qc args s 0 0 (kp_A X N)) (F0 m 0 ls [])) : kp_Met l y bytes maxL ret d X lay N σ av Qc := by
  refine Met.ofW (cc := bytes) (maxL := maxL) (ret := ret) hy rfl ?_
  intro p e s m args below meth c s₁ B hml hv
  obtain ⟨rfl, hP, hG⟩ := hv
  have hts := atoms_spec (ws := Cond.code y bytes maxL ret :: kp_wl) B.pre
  have hl := lv_entry av (n := maxL) hn
  rw [lg_entry_eq]
  generalize (lg_sl av ++ List.replicate (maxL - (lg_sl av).length) Slot.unset).toArray = ls at hl ⊢
  exact body p e s m av.toArray below meth c ls ⟨B.exec, B.bytes, hml, findClass_of_methodNamed B.named, fun w hw => hts w (List.mem_cons_of_mem _ hw)⟩ B.returns B.notSynchronized hG ⟨hP, va_S.rf⟩ hl
section KPC
variable {p : Program} {l : Launch} {e : Env} {R : Room} {s : State} {m : MethodId} {args : Array Value} {below : List Frame} {meth : Method} {c : Code} {H : Heap} {locs : List Loc} {Q : State → Prop}
variable {cc : ByteArray} {nL : Nat} {own : String} {pc : Nat} {ls : Array Slot} {rest st : List Value} {X : kp_X} {lay : Nat → kp_D} {N : Nat} {σ σ' : kp_W} {r : Int}
theorem kp_hq (G : kp_G X N s) (h : kp_H X lay N s σ H locs) : ∀ t : State, t.heap = H → s.WarmedH t.vm → kp_B X lay N σ t ∧ va_F (kp_A X N) s t := fun t ht hW => ⟨kp_B_of G h ht hW, h.2.F ht⟩
theorem kp_reti (C : CallFix p m c cc nL s args kp_wl own) (hr : meth.sig.returnType = some .int) (hlk : meth.locks = false) (G : kp_G X N s) {σ0 : kp_W} (h : kp_H X lay N s σ0 H locs) {v : Int} (hdg : decode cc pc = .ok (.ireturn, 1)) (hF : (some (v, σ0) : kp_R) = some (r, σ)) : W p l e R s m args below meth c H locs 0 0 (MQ below (kp_Qi X lay N σ r) args s 0 0 (kp_A X N)) (F0 m pc ls [kp_iv v]) := by
  obtain ⟨rfl, rfl⟩ := Prod.mk.inj (Option.some.inj hF)
  exact W.iret C.1 C.2.1 hr (fun t ht hW => ⟨⟨_, (), rfl, rfl, (kp_hq G h t ht hW).1⟩, (kp_hq G h t ht hW).2⟩) h.2.2.2 hdg hlk
theorem kp_retz (C : CallFix p m c cc nL s args kp_wl own) (hr : meth.sig.returnType = some .boolean) (hlk : meth.locks = false) (G : kp_G X N s) {σ0 : kp_W} (h : kp_H X lay N s σ0 H locs) {v : Int} (hdg : decode cc pc = .ok (.ireturn, 1)) (hF : kp_ck (v = 0 ∨ v = 1) (some (v, σ0) : kp_R) = some (r, σ)) : W p l e R s m args below meth c H locs 0 0 (MQ below (kp_Qi X lay N σ r) args s 0 0 (kp_A X N)) (F0 m pc ls [kp_iv v]) := by
  obtain ⟨hv, hF⟩ := kp_ck_s hF
  obtain ⟨rfl, rfl⟩ := Prod.mk.inj (Option.some.inj hF)
  exact W.zret C.1 C.2.1 hr (by rcases hv with rfl | rfl <;> rfl) (fun t ht hW => ⟨⟨_, (), rfl, rfl, (kp_hq G h t ht hW).1⟩, (kp_hq G h t ht hW).2⟩) h.2.2.2 hdg hlk
theorem kp_retl (C : CallFix p m c cc nL s args kp_wl own) (hr : meth.sig.returnType = some .long) (hlk : meth.locks = false) (G : kp_G X N s) {σ0 : kp_W} (h : kp_H X lay N s σ0 H locs) {v : Int} (hdg : decode cc pc = .ok (.lreturn, 1)) (hF : (some (v, σ0) : kp_R) = some (r, σ)) : W p l e R s m args below meth c H locs 0 0 (MQ below (kp_Ql X lay N σ r) args s 0 0 (kp_A X N)) (F0 m pc ls [kp_jv v]) := by
  obtain ⟨rfl, rfl⟩ := Prod.mk.inj (Option.some.inj hF)
  exact W.lret C.1 C.2.1 hr (fun t ht hW => ⟨⟨_, (), rfl, rfl, (kp_hq G h t ht hW).1⟩, (kp_hq G h t ht hW).2⟩) h.2.2.2 hdg hlk
theorem kp_retv (C : CallFix p m c cc nL s args kp_wl own) (hr : meth.sig.returnType = none) (hlk : meth.locks = false) (G : kp_G X N s) {σ0 : kp_W} (h : kp_H X lay N s σ0 H locs) {v : Int} (hdg : decode cc pc = .ok (.return_, 1)) (hF : (some (v, σ0) : kp_R) = some (r, σ)) : W p l e R s m args below meth c H locs 0 0 (MQ below (kp_Qv X lay N σ) args s 0 0 (kp_A X N)) (F0 m pc ls []) := by
  obtain ⟨rfl, rfl⟩ := Prod.mk.inj (Option.some.inj hF)
  exact W.vret C.1 C.2.1 hr (fun t ht hW => ⟨⟨(), rfl, trivial, (kp_hq G h t ht hW).1⟩, (kp_hq G h t ht hW).2⟩) h.2.2.2 hdg hlk
-- calls
variable {y : MethodName} {bytes : ByteArray} {maxL index n d dd : Nat} {ret : Option FieldType} {As : List Value} {Qc : Array Value → State → Outcome → State → Prop}
theorem kp_gapp {big a b : List Cond} (ha : GoodIn big a) (hb : GoodIn big b) : GoodIn big (a ++ b) := fun w h => (List.mem_append.mp h).elim (ha w) (hb w)
theorem kp_wsy (hc : Cond.code y bytes maxL ret ∈ kp_wl) : GoodIn kp_wl (Cond.code y bytes maxL ret :: kp_wl) := fun w hw => (List.mem_cons.mp hw).elim (fun e => by rw [e]; exact kp_wl_good _ hc) (fun h => kp_wl_good w h)
theorem kp_rmle (hd : dd + 1 ≤ d) (hm : maxL ≤ 41) : (kp_rm dd).frames + 1 ≤ (kp_rm d).frames ∧ 8 + (maxL + 11) + (kp_rm dd).locals ≤ (kp_rm d).locals := by
  unfold kp_rm
  exact ⟨hd, by show 8 + (maxL + 11) + 60 * dd ≤ 60 * d; omega⟩
theorem kp_rV {k ci Nf : Nat} {T : u_T} {rs : List (Option Nat)} (C : CallFix p m c cc nL s args kp_wl own) (G : kp_G X N s) (h : kp_H X lay N s σ H locs) (hM : kp_Met l y bytes maxL ret dd X lay N σ (.ref (kp_ad X k) :: As) Qc) (w1 : Cond.methodLink own index y ∈ kp_wl) (w2 : Cond.instanceMethod y ∈ kp_wl) (w3 : Cond.selects y.cls y y ∈ kp_wl) (w4 : Cond.initialized y.cls ∈ kp_wl) (w5 : Cond.code y bytes maxL ret ∈ kp_wl) (hd : y.cls = y.cls ∧ y.cls ≠ "java/lang/invoke/MethodHandle" ∧ y.cls ≠ "java/lang/invoke/VarHandle" ∧ (parseMethodDescriptor y.desc).map (fun d => d.parameters.length) = some n) (hR : dd + 1 ≤ d ∧ maxL ≤ 41) (hL : k < N ∧ lay k = (0, ci, rs)) (hc : vwCl[ci]? = some (y.cls, T, Nf)) (hn : As.length = n) (hl : ls.size = nL) (hst : st = As.reverse ++ .ref (kp_ad X k) :: rest) (hW : (rest.map fun v => v.category).sum ≤ 8) (hdg : decode cc pc = .ok (.invokevirtual index, 3)) : va_Run p l e (kp_rm d) s m args below meth c H locs 0 0 0 0 (F0 m pc ls st) rest (Qc (Value.ref (kp_ad X k) :: As).toArray) (kp_A X N) := by
  refine va_runV C hM (cwV n C.2.2.2.2 ?_ rfl rfl rfl hd (kp_rmle hR.1 hR.2)) ⟨kp_B_blind, va_recv G.1 h.1 hc (kp_obj hL), fun U hU hW => ⟨rfl, kp_B_of G h hU hW⟩⟩ rfl hn hl hst (lv_room hW) hdg ⟨Nat.zero_le _, Nat.zero_le _⟩
  unfold wsV
  refine kp_gapp (fun w hw => ?_) (kp_wsy w5)
  simp only [List.mem_cons, List.not_mem_nil, or_false] at hw
  rcases hw with rfl | rfl | rfl | rfl
  · exact kp_wl_good _ w1
  · exact kp_wl_good _ w2
  · exact kp_wl_good _ w3
  · exact kp_wl_good _ w4
theorem kp_rS (C : CallFix p m c cc nL s args kp_wl own) (G : kp_G X N s) (h : kp_H X lay N s σ H locs) (hM : kp_Met l y bytes maxL ret dd X lay N σ As Qc) (w1 : Cond.methodLink own index y ∈ kp_wl) (w2 : Cond.static y ∈ kp_wl) (w4 : Cond.initialized y.cls ∈ kp_wl) (w5 : Cond.code y bytes maxL ret ∈ kp_wl) (hd : y.cls ≠ "java/lang/invoke/MethodHandle" ∧ y.cls ≠ "java/lang/invoke/VarHandle" ∧ (parseMethodDescriptor y.desc).map (fun d => d.parameters.length) = some n) (hR : dd + 1 ≤ d ∧ maxL ≤ 41) (hn : As.length = n) (hl : ls.size = nL) (hst : st = As.reverse ++ rest) (hW : (rest.map fun v => v.category).sum ≤ 8) (hdg : decode cc pc = .ok (.invokestatic index, 3)) : va_Run p l e (kp_rm d) s m args below meth c H locs 0 0 0 0 (F0 m pc ls st) rest (Qc As.toArray) (kp_A X N) := by
  refine va_runS C hM ⟨callB_of n C.2.2.2.2 (kp_wsy w5) rfl rfl rfl (C.2.2.2.2 _ w4) (C.2.2.2.2 _ w1) hd (kp_rmle hR.1 hR.2), C.2.2.2.2 _ w2⟩ ⟨kp_B_blind, fun U hU hW => ⟨rfl, kp_B_of G h hU hW⟩⟩ rfl hn hl hst (lv_room hW) hdg ⟨Nat.zero_le _, Nat.zero_le _⟩
theorem kp_rSN {host : String} (C : CallFix p m c cc nL s args kp_wl own) (G : kp_G X N s) (h : kp_H X lay N s σ H locs) (hM : kp_Met l y bytes maxL ret dd X lay N σ As Qc) (w1 : (own, index, y, host) ∈ kp_nm) (w2 : Cond.static y ∈ kp_wl) (w4 : Cond.initialized y.cls ∈ kp_wl) (w5 : Cond.code y bytes maxL ret ∈ kp_wl) (hd : y.cls ≠ "java/lang/invoke/MethodHandle" ∧ y.cls ≠ "java/lang/invoke/VarHandle" ∧ (parseMethodDescriptor y.desc).map (fun d => d.parameters.length) = some n) (hR : dd + 1 ≤ d ∧ maxL ≤ 41) (hn : As.length = n) (hl : ls.size = nL) (hst : st = As.reverse ++ rest) (hW : (rest.map fun v => v.category).sum ≤ 8) (hdg : decode cc pc = .ok (.invokestatic index, 3)) : va_Run p l e (kp_rm d) s m args below meth c H locs 0 0 0 0 (F0 m pc ls st) rest (Qc As.toArray) (kp_A X N) := by
  refine va_runSN C hM ⟨va_cnB n C.2.2.2.2 (kp_wsy w5) rfl rfl rfl (G.2.2.2.2.2.2.2.1 _ w1) (C.2.2.2.2 _ w4) hd (kp_rmle hR.1 hR.2), C.2.2.2.2 _ w2, trivial⟩ ⟨kp_B_blind, fun U hU hW => ⟨rfl, kp_B_of G h hU hW⟩⟩ rfl hn hl hst (lv_room hW) hdg ⟨Nat.zero_le _, Nat.zero_le _⟩
theorem kp_ci {a : Array Value} (h : kp_H X lay N s σ H locs) (hr : va_Run p l e R s m args below meth c H locs 0 0 0 0 (F0 m pc ls st) rest (kp_Qi X lay N σ' r a) (kp_A X N)) (kk : ∀ (H1 : Heap) (locs1 : List Loc), kp_H X lay N s σ' H1 locs1 → W p l e R s m args below meth c H1 locs1 0 0 Q (F0 m (pc + 3) ls (kp_iv r :: rest))) : W p l e R s m args below meth c H locs 0 0 Q (F0 m pc ls st) := by
  refine va_calli hr h.2 (fun _ _ z => z) (fun _ z => z) (fun r2 u t H1 locs1 ht hvm hp hB hz hk hS => ?_)
  subst hp
  exact kk H1 locs1 ⟨by rw [← ht]; exact hB.1, hS⟩
theorem kp_cl' {a : Array Value} (h : kp_H X lay N s σ H locs) (hr : va_Run p l e R s m args below meth c H locs 0 0 0 0 (F0 m pc ls st) rest (kp_Ql X lay N σ' r a) (kp_A X N)) (kk : ∀ (H1 : Heap) (locs1 : List Loc), kp_H X lay N s σ' H1 locs1 → W p l e R s m args below meth c H1 locs1 0 0 Q (F0 m (pc + 3) ls (kp_jv r :: rest))) : W p l e R s m args below meth c H locs 0 0 Q (F0 m pc ls st) := by
  refine va_calll hr h.2 (fun _ _ z => z) (fun _ z => z) (fun r2 u t H1 locs1 ht hvm hp hB hz hk hS => ?_)
  subst hp
  exact kk H1 locs1 ⟨by rw [← ht]; exact hB.1, hS⟩
theorem kp_cv {a : Array Value} (h : kp_H X lay N s σ H locs) (hr : va_Run p l e R s m args below meth c H locs 0 0 0 0 (F0 m pc ls st) rest (kp_Qv X lay N σ' a) (kp_A X N)) (kk : ∀ (H1 : Heap) (locs1 : List Loc), kp_H X lay N s σ' H1 locs1 → W p l e R s m args below meth c H1 locs1 0 0 Q (F0 m (pc + 3) ls rest)) : W p l e R s m args below meth c H locs 0 0 Q (F0 m pc ls st) := by
  refine va_callv hr h.2 (fun _ _ z => z) (fun _ z => z) (fun u t H1 locs1 ht hvm hp hB hz hk hS => ?_)
  exact kk H1 locs1 ⟨by rw [← ht]; exact hB.1, hS⟩
-- statics and strings
theorem kp_gets {ref : String} (C : CallFix p m c cc nL s args kp_wl own) (G : kp_G X N s) (h : kp_H X lay N s σ H locs) {i : Nat} (hi : i < 3) (hw : Cond.fieldLink own index (kp_tn i).1 (kp_tn i).2 "[I" ∈ kp_wl) (hdg : decode cc pc = .ok (.getstatic index, 3)) (kk : W p l e R s m args below meth c H locs 0 0 Q (F0 m (pc + 3) ls (.ref (kp_tt X i) :: rest))) : W p l e R s m args below meth c H locs 0 0 Q (F0 m pc ls rest) := va_gets C.1 C.2.1 (G.2.2.1 i hi).1 h.2 C.2.2.2.1 (C.2.2.2.2 _ hw) (fun _ z => z) hdg kk
theorem kp_getsN {host : String} (C : CallFix p m c cc nL s args kp_wl own) (G : kp_G X N s) (h : kp_H X lay N s σ H locs) {i : Nat} (hi : i < 3) (hw : (own, index, (kp_tn i).1, (kp_tn i).2, "[I", host) ∈ kp_nf) (hdg : decode cc pc = .ok (.getstatic index, 3)) (kk : W p l e R s m args below meth c H locs 0 0 Q (F0 m (pc + 3) ls (.ref (kp_tt X i) :: rest))) : W p l e R s m args below meth c H locs 0 0 Q (F0 m pc ls rest) := va_getsN C.1 C.2.1 (G.2.2.1 i hi).1 h.2 C.2.2.2.1 (va_Nw.use rfl (G.2.2.2.2.2.2.2.2 _ hw)) (fun _ z => z) hdg kk
theorem kp_tiald (C : CallFix p m c cc nL s args kp_wl own) (G : kp_G X N s) (h : kp_H X lay N s σ H locs) {i : Nat} (hi : i < 3) {n x : Int} (hn : (kp_tb i).length = n.toNat) (hn2 : n ≤ 2147483647) {r : kp_R} {o : Int × kp_W} (hdg : decode cc pc = .ok (.iaload, 1)) (hF : kp_ck (0 ≤ x ∧ x < n) r = some o) (kk : r = some o → W p l e R s m args below meth c H locs 0 0 Q (F0 m (pc + 1) ls (kp_iv ((kp_tb i).getD x.toNat 0) :: rest))) : W p l e R s m args below meth c H locs 0 0 Q (F0 m pc ls (kp_iv x :: .ref (kp_tt X i) :: rest)) := by
  obtain ⟨a, hF⟩ := kp_ck_s hF
  exact va_ti C.1 C.2.1 (G.2.2.1 i hi).2 h.2 (by rw [hn]; exact kp_vin a hn2) (by rw [kp_clx a hn2]) hdg (kk hF)
theorem kp_ldcS (C : CallFix p m c cc nL s args kp_wl own) (G : kp_G X N s) {tx : String} {i : Nat} (hw : (own, index, tx, i) ∈ kp_sr) (hdg : decode cc pc = .ok (.ldc index, 2)) (kk : W p l e R s m args below meth c H locs 0 0 Q (F0 m (pc + 2) ls (.ref (kp_sK X i) :: rest))) : W p l e R s m args below meth c H locs 0 0 Q (F0 m pc ls rest) := va_ldcS C.1 C.2.1 C.2.2.2.1 (G.2.2.2.2.2.2.1 _ hw) hdg kk
-- Math
theorem kp_mmax {o : Int × kp_W} {f : kp_R} (C : CallFix p m c cc nL s args kp_wl own) (hl : ls.size = nL) {x y : Int} (w1 : Cond.methodLink own index Lib.Math.max.name ∈ kp_wl) (w2 : Cond.static Lib.Math.max.name ∈ kp_wl) (w4 : Cond.initialized "java/lang/Math" ∈ kp_wl) (w5 : Cond.code Lib.Math.max.name Lib.Math.max.code 2 (some .int) ∈ kp_wl) (hd : 1 ≤ d) (hW : (rest.map fun v => v.category).sum ≤ 8) (hdg : decode cc pc = .ok (.invokestatic index, 3)) (hF : kp_ck (kp_in x ∧ kp_in y) f = some o) (kk : f = some o → W p l e (kp_rm d) s m args below meth c H locs 0 0 Q (F0 m (pc + 3) ls (kp_iv (kp_max x y) :: rest))) : W p l e (kp_rm d) s m args below meth c H locs 0 0 Q (F0 m pc ls (kp_iv y :: kp_iv x :: rest)) := by
  obtain ⟨a, hF⟩ := kp_ck_s hF
  have kk := kk hF
  have e1 : kp_iv (kp_max x y) = .int (if Int32.ofInt x < Int32.ofInt y then Int32.ofInt y else Int32.ofInt x) := by
    unfold kp_max kp_iv
    by_cases q : x < y
    · rw [if_pos q, if_pos ((kp_lt_i a.1 a.2).mpr q)]
    · rw [if_neg q, if_neg (fun z => q ((kp_lt_i a.1 a.2).mp z))]
  rw [e1] at kk
  exact va_mmax C.1 C.2.1 (C.2.2.1.trans hl.symm) C.2.2.2.1 (C.2.2.2.2 _ w1) (C.2.2.2.2 _ w2) (C.2.2.2.2 _ w4) (C.2.2.2.2 _ w5) hd (by show _ ≤ 60 * d; omega) (Nat.zero_le _) (Nat.zero_le _) hdg kk
theorem kp_mmin {o : Int × kp_W} {f : kp_R} (C : CallFix p m c cc nL s args kp_wl own) (hl : ls.size = nL) {x y : Int} (w1 : Cond.methodLink own index Lib.Math.min.name ∈ kp_wl) (w2 : Cond.static Lib.Math.min.name ∈ kp_wl) (w4 : Cond.initialized "java/lang/Math" ∈ kp_wl) (w5 : Cond.code Lib.Math.min.name Lib.Math.min.code 2 (some .int) ∈ kp_wl) (hd : 1 ≤ d) (hW : (rest.map fun v => v.category).sum ≤ 8) (hdg : decode cc pc = .ok (.invokestatic index, 3)) (hF : kp_ck (kp_in x ∧ kp_in y) f = some o) (kk : f = some o → W p l e (kp_rm d) s m args below meth c H locs 0 0 Q (F0 m (pc + 3) ls (kp_iv (kp_min x y) :: rest))) : W p l e (kp_rm d) s m args below meth c H locs 0 0 Q (F0 m pc ls (kp_iv y :: kp_iv x :: rest)) := by
  obtain ⟨a, hF⟩ := kp_ck_s hF
  have kk := kk hF
  have e1 : kp_iv (kp_min x y) = .int (if Int32.ofInt y < Int32.ofInt x then Int32.ofInt y else Int32.ofInt x) := by
    unfold kp_min kp_iv
    by_cases q : y < x
    · rw [if_pos q, if_pos ((kp_lt_i a.2 a.1).mpr q)]
    · rw [if_neg q, if_neg (fun z => q ((kp_lt_i a.2 a.1).mp z))]
  rw [e1] at kk
  exact va_mmin C.1 C.2.1 (C.2.2.1.trans hl.symm) C.2.2.2.1 (C.2.2.2.2 _ w1) (C.2.2.2.2 _ w2) (C.2.2.2.2 _ w4) (C.2.2.2.2 _ w5) hd (by show _ ≤ 60 * d; omega) (Nat.zero_le _) (Nat.zero_le _) hdg kk
theorem kp_mabs {o : Int × kp_W} {f : kp_R} (C : CallFix p m c cc nL s args kp_wl own) (hl : ls.size = nL) {x : Int} (w1 : Cond.methodLink own index Lib.Math.abs.name ∈ kp_wl) (w2 : Cond.static Lib.Math.abs.name ∈ kp_wl) (w4 : Cond.initialized "java/lang/Math" ∈ kp_wl) (w5 : Cond.code Lib.Math.abs.name Lib.Math.abs.code 1 (some .int) ∈ kp_wl) (hd : 1 ≤ d) (hW : (rest.map fun v => v.category).sum ≤ 8) (hdg : decode cc pc = .ok (.invokestatic index, 3)) (hF : kp_ck (kp_in x) f = some o) (kk : f = some o → W p l e (kp_rm d) s m args below meth c H locs 0 0 Q (F0 m (pc + 3) ls (kp_iv (kp_abs x) :: rest))) : W p l e (kp_rm d) s m args below meth c H locs 0 0 Q (F0 m pc ls (kp_iv x :: rest)) := by
  obtain ⟨a, hF⟩ := kp_ck_s hF
  have kk := kk hF
  have e1 : kp_iv (kp_abs x) = .int (if Int32.ofInt 0 ≤ Int32.ofInt x then Int32.ofInt x else Int32.ofInt 0 - Int32.ofInt x) := by
    unfold kp_abs kp_iv
    by_cases q : 0 ≤ x
    · rw [if_pos q, if_pos ((kp_le_i kp_in0 a).mpr q)]
    · rw [if_neg q, if_neg (fun z => q ((kp_le_i kp_in0 a).mp z)), ← Int32.ofInt_sub, Int.zero_sub]
  rw [e1] at kk
  exact va_mabs C.1 C.2.1 (C.2.2.1.trans hl.symm) C.2.2.2.1 (C.2.2.2.2 _ w1) (C.2.2.2.2 _ w2) (C.2.2.2.2 _ w4) (C.2.2.2.2 _ w5) hd (by show _ ≤ 60 * d; omega) (Nat.zero_le _) (Nat.zero_le _) hdg kk
end KPC
end
section
section KPM
variable {p : Program} {l : Launch} {e : Env} {R : Room} {s : State} {m : MethodId} {args : Array Value} {below : List Frame} {meth : Method} {c : Code} {H : Heap} {locs : List Loc} {Q : State → Prop}
variable {cc : ByteArray} {nL : Nat} {own : String} {pc : Nat} {ls : Array Slot} {rest : List Value} {X : kp_X} {lay : Nat → kp_D} {N d : Nat} {σ : kp_W} {o : Int × kp_W}
theorem kp_dup2 (C : CallFix p m c cc nL s args kp_wl own) {va vb : Value} (hdg : decode cc pc = .ok (.dup2, 1)) (h1 : va.category = 1) (h2 : vb.category = 1) (k : W p l e R s m args below meth c H locs 0 0 Q (F0 m (pc + 1) ls (va :: vb :: va :: vb :: rest))) : W p l e R s m args below meth c H locs 0 0 Q (F0 m pc ls (va :: vb :: rest)) := lv_dup2_11 C.1 C.2.1 hdg h1 h2 k
theorem kp_tabIn (C : CallFix p m c cc nL s args kp_wl own) {dflt lo hi off x v : Int} {offs : Array Int} {len tgt : Nat} (hdg : decode cc pc = .ok (.tableswitch dflt lo hi offs, len)) (hx : x = v) (hv : kp_in v ∧ lo ≤ v ∧ v ≤ hi) (ho : offs[(v - lo).toNat]? = some off) (ht : (pc : Int) + off = (tgt : Int)) (k : W p l e R s m args below meth c H locs 0 0 Q (F0 m tgt ls rest)) : W p l e R s m args below meth c H locs 0 0 Q (F0 m pc ls (kp_iv x :: rest)) := by
  subst hx
  exact lv_tableIn C.1 C.2.1 hdg (by rw [kp_ti hv.1]; omega) (by rw [kp_ti hv.1]; omega) (by rw [kp_ti hv.1]; exact ho) ht k
theorem kp_tabOut (C : CallFix p m c cc nL s args kp_wl own) {dflt lo hi x : Int} {offs : Array Int} {len tgt : Nat} (hdg : decode cc pc = .ok (.tableswitch dflt lo hi offs, len)) (hx : kp_in x) (hn : x < lo ∨ hi < x) (ht : (pc : Int) + dflt = (tgt : Int)) (k : W p l e R s m args below meth c H locs 0 0 Q (F0 m tgt ls rest)) : W p l e R s m args below meth c H locs 0 0 Q (F0 m pc ls (kp_iv x :: rest)) :=
  lv_tableOut C.1 C.2.1 hdg (by rw [kp_ti hx]; exact hn) ht k
theorem kp_look (C : CallFix p m c cc nL s args kp_wl own) {dflt off x : Int} {ps : Array (Int × Int)} {len tgt : Nat} (hdg : decode cc pc = .ok (.lookupswitch dflt ps, len)) (hp : (ps.toList.zip (ps.toList.drop 1)).all (fun (a, next) => a.1 < next.1) = true) (hx : kp_in x) (ho : Op.lookupswitch.offset ps.toList dflt x = off) (ht : (pc : Int) + off = (tgt : Int)) (k : W p l e R s m args below meth c H locs 0 0 Q (F0 m tgt ls rest)) : W p l e R s m args below meth c H locs 0 0 Q (F0 m pc ls (kp_iv x :: rest)) :=
  lv_lookup C.1 C.2.1 hdg hp (by rw [kp_ti hx]; exact ho) ht k
theorem kp_nn (n : Int) : kp_in n → 0 ≤ n → ¬ Int32.ofInt n < 0 := fun h h0 => by rw [kp_0, kp_lt_i h kp_in0]; omega
def kp_fill (σ : kp_W) (k : Nat) (f : Nat → Int) (n : Nat) : kp_W := fun a b => if a = k ∧ b < n then f b else σ a b
theorem kp_fill_ne {σ : kp_W} {k : Nat} {f : Nat → Int} {n j : Nat} (h : j ≠ k) : kp_fill σ k f n j = σ j := by
  funext b
  unfold kp_fill
  rw [if_neg (fun z => h z.1)]
theorem kp_fill_eq {σ : kp_W} {k : Nat} {f : Nat → Int} {n j : Nat} : kp_fill σ k f n k j = if j < n then f j else σ k j := by
  unfold kp_fill
  by_cases h : j < n
  · rw [if_pos ⟨rfl, h⟩, if_pos h]
  · rw [if_neg (fun z => h z.2), if_neg h]
theorem kp_cpyI {f g : Nat → Int} {n : Nat} : va_cpy (fun j => Int32.ofInt (f j)) (fun j => Int32.ofInt (g j)) 0 0 n = fun j => Int32.ofInt (if j < n then f j else g j) := by
  funext j
  unfold va_cpy
  by_cases q : j < n
  · rw [if_pos ⟨Nat.zero_le _, by omega⟩, if_pos q, Nat.sub_zero, Nat.zero_add]
  · rw [if_neg (by omega), if_neg q]
theorem kp_cpyJ {f g : Nat → Int} {n : Nat} : va_cpy (fun j => Int64.ofInt (f j)) (fun j => Int64.ofInt (g j)) 0 0 n = fun j => Int64.ofInt (if j < n then f j else g j) := by
  funext j
  unfold va_cpy
  by_cases q : j < n
  · rw [if_pos ⟨Nat.zero_le _, by omega⟩, if_pos q, Nat.sub_zero, Nat.zero_add]
  · rw [if_neg (by omega), if_neg q]
theorem kp_nfw {st : List Value} {d : Nat} (hd : 1 ≤ d) (hW : (st.map fun v => v.category).sum ≤ 8) : (st.map fun v => v.category).sum + (nativeFrameWords "java/lang/System" "arraycopy" 5 + 11) ≤ (kp_rm d).locals := by
  have h7 : nativeFrameWords "java/lang/System" "arraycopy" 5 = 7 := by decide +kernel
  show _ ≤ 60 * d
  omega
theorem kp_ac0 : (Int32.ofInt 0).toNatClampNeg = 0 := rfl
/-- System.arraycopy(a, 0, b, 0, n) between two int rows -/
theorem kp_acI (C : CallFix p m c cc nL s args kp_wl own) (G : kp_G X N s) (h : kp_H X lay N s σ H locs) (hl : ls.size = nL) {index k0 k1 n0 n1 : Nat} {n : Int} {rs0 rs1 : List (Option Nat)} (w1 : Cond.methodLink own index arraycopyName ∈ kp_wl) (w2 : Cond.native arraycopyName ∈ kp_wl) (w3 : Cond.static arraycopyName ∈ kp_wl) (w4 : Cond.initialized "java/lang/System" ∈ kp_wl) (hL0 : k0 < N ∧ lay k0 = (1, n0, rs0)) (hL1 : k1 < N ∧ lay k1 = (1, n1, rs1)) (hn : kp_in n ∧ 0 ≤ n ∧ n.toNat ≤ n0 ∧ n.toNat ≤ n1) (hd : 1 ≤ d) (hW : (rest.map fun v => v.category).sum ≤ 8) (hdg : decode cc pc = .ok (.invokestatic index, 3)) {f : kp_W → kp_R} (hF : kp_lt (kp_fill σ k1 (σ k0) n.toNat) f = some o) (kk : ∀ (σ' : kp_W) (H1 : Heap) (locs1 : List Loc), kp_H X lay N s σ' H1 locs1 → f σ' = some o → W p l e (kp_rm d) s m args below meth c H1 locs1 0 0 Q (F0 m (pc + 3) ls rest)) : W p l e (kp_rm d) s m args below meth c H locs 0 0 Q (F0 m pc ls (kp_iv n :: kp_iv 0 :: .ref (kp_ad X k1) :: kp_iv 0 :: .ref (kp_ad X k0) :: rest)) := by
  have hc : (Int32.ofInt n).toNatClampNeg = n.toNat := kp_cl hn.1
  refine va_copyi C.1 C.2.1 (C.2.2.1.trans hl.symm) C.2.2.2.1 (C.2.2.2.2 _ w1) (C.2.2.2.2 _ w2) (C.2.2.2.2 _ w3) (C.2.2.2.2 _ w4) G.1 h.1 (kp_ws_D G.2.1) h.2 k0 k1 0 0 (kp_arr hL0) (kp_arr hL1) (ty := .int) rfl rfl rfl (sp := Int32.ofInt 0) (dp := Int32.ofInt 0) (n := Int32.ofInt n) (by decide) (by decide) (kp_nn n hn.1 hn.2.1) (by rw [hc, kp_ac0]; omega) (by rw [hc, kp_ac0]; omega) (fun _ _ => rfl) hd (kp_nfw hd hW) hdg (fun H1 locs1 hP _ hS => kk (kp_fill σ k1 (σ k0) n.toNat) H1 locs1 ⟨?_, hS⟩ hF)
  rw [hc, kp_ac0, kp_cpyI, kp_ws_set (σ' := kp_fill σ k1 (σ k0) n.toNat) hL1.1 (by rw [hL1.2]; show Sum.inl _ = Sum.inl _; congr 4; funext j; rw [kp_fill_eq]) (fun _ hq => kp_fill_ne hq)] at hP
  exact hP
theorem kp_acJ (C : CallFix p m c cc nL s args kp_wl own) (G : kp_G X N s) (h : kp_H X lay N s σ H locs) (hl : ls.size = nL) {index k0 k1 n0 n1 : Nat} {n : Int} {rs0 rs1 : List (Option Nat)} (w1 : Cond.methodLink own index arraycopyName ∈ kp_wl) (w2 : Cond.native arraycopyName ∈ kp_wl) (w3 : Cond.static arraycopyName ∈ kp_wl) (w4 : Cond.initialized "java/lang/System" ∈ kp_wl) (hL0 : k0 < N ∧ lay k0 = (2, n0, rs0)) (hL1 : k1 < N ∧ lay k1 = (2, n1, rs1)) (hn : kp_in n ∧ 0 ≤ n ∧ n.toNat ≤ n0 ∧ n.toNat ≤ n1) (hd : 1 ≤ d) (hW : (rest.map fun v => v.category).sum ≤ 8) (hdg : decode cc pc = .ok (.invokestatic index, 3)) {f : kp_W → kp_R} (hF : kp_lt (kp_fill σ k1 (σ k0) n.toNat) f = some o) (kk : ∀ (σ' : kp_W) (H1 : Heap) (locs1 : List Loc), kp_H X lay N s σ' H1 locs1 → f σ' = some o → W p l e (kp_rm d) s m args below meth c H1 locs1 0 0 Q (F0 m (pc + 3) ls rest)) : W p l e (kp_rm d) s m args below meth c H locs 0 0 Q (F0 m pc ls (kp_iv n :: kp_iv 0 :: .ref (kp_ad X k1) :: kp_iv 0 :: .ref (kp_ad X k0) :: rest)) := by
  have hc : (Int32.ofInt n).toNatClampNeg = n.toNat := kp_cl hn.1
  refine va_copyl C.1 C.2.1 (C.2.2.1.trans hl.symm) C.2.2.2.1 (C.2.2.2.2 _ w1) (C.2.2.2.2 _ w2) (C.2.2.2.2 _ w3) (C.2.2.2.2 _ w4) G.1 h.1 (kp_ws_D G.2.1) h.2 k0 k1 1 1 (kp_arrL hL0) (kp_arrL hL1) (ty := .long) rfl rfl rfl (sp := Int32.ofInt 0) (dp := Int32.ofInt 0) (n := Int32.ofInt n) (by decide) (by decide) (kp_nn n hn.1 hn.2.1) (by rw [hc, kp_ac0]; omega) (by rw [hc, kp_ac0]; omega) (fun _ _ => rfl) hd (kp_nfw hd hW) hdg (fun H1 locs1 hP _ hS => kk (kp_fill σ k1 (σ k0) n.toNat) H1 locs1 ⟨?_, hS⟩ hF)
  rw [hc, kp_ac0, kp_cpyJ, kp_ws_set (σ' := kp_fill σ k1 (σ k0) n.toNat) hL1.1 (by rw [hL1.2]; show Sum.inl _ = Sum.inl _; congr 5; funext j; rw [kp_fill_eq]) (fun _ hq => kp_fill_ne hq)] at hP
  exact hP
theorem kp_acZ (C : CallFix p m c cc nL s args kp_wl own) (G : kp_G X N s) (h : kp_H X lay N s σ H locs) (hl : ls.size = nL) {index k0 k1 n0 n1 : Nat} {n : Int} {rs0 rs1 : List (Option Nat)} (w1 : Cond.methodLink own index arraycopyName ∈ kp_wl) (w2 : Cond.native arraycopyName ∈ kp_wl) (w3 : Cond.static arraycopyName ∈ kp_wl) (w4 : Cond.initialized "java/lang/System" ∈ kp_wl) (hL0 : k0 < N ∧ lay k0 = (3, n0, rs0)) (hL1 : k1 < N ∧ lay k1 = (3, n1, rs1)) (hn : kp_in n ∧ 0 ≤ n ∧ n.toNat ≤ n0 ∧ n.toNat ≤ n1) (hd : 1 ≤ d) (hW : (rest.map fun v => v.category).sum ≤ 8) (hdg : decode cc pc = .ok (.invokestatic index, 3)) {f : kp_W → kp_R} (hF : kp_ck (∀ i, i < n.toNat → σ k0 i = 0 ∨ σ k0 i = 1) (kp_lt (kp_fill σ k1 (σ k0) n.toNat) f) = some o) (kk : ∀ (σ' : kp_W) (H1 : Heap) (locs1 : List Loc), kp_H X lay N s σ' H1 locs1 → f σ' = some o → W p l e (kp_rm d) s m args below meth c H1 locs1 0 0 Q (F0 m (pc + 3) ls rest)) : W p l e (kp_rm d) s m args below meth c H locs 0 0 Q (F0 m pc ls (kp_iv n :: kp_iv 0 :: .ref (kp_ad X k1) :: kp_iv 0 :: .ref (kp_ad X k0) :: rest)) := by
  obtain ⟨hz, hF⟩ := kp_ck_s hF
  have hc : (Int32.ofInt n).toNatClampNeg = n.toNat := kp_cl hn.1
  refine va_copyi C.1 C.2.1 (C.2.2.1.trans hl.symm) C.2.2.2.1 (C.2.2.2.2 _ w1) (C.2.2.2.2 _ w2) (C.2.2.2.2 _ w3) (C.2.2.2.2 _ w4) G.1 h.1 (kp_ws_D G.2.1) h.2 k0 k1 2 2 (kp_arrZ hL0) (kp_arrZ hL1) (ty := .boolean) rfl rfl rfl (sp := Int32.ofInt 0) (dp := Int32.ofInt 0) (n := Int32.ofInt n) (by decide) (by decide) (kp_nn n hn.1 hn.2.1) (by rw [hc, kp_ac0]; omega) (by rw [hc, kp_ac0]; omega) (fun i hi => by rw [hc] at hi; rw [kp_ac0, Nat.zero_add]; rcases hz i hi with q | q <;> rw [q] <;> rfl) hd (kp_nfw hd hW) hdg (fun H1 locs1 hP _ hS => kk (kp_fill σ k1 (σ k0) n.toNat) H1 locs1 ⟨?_, hS⟩ hF)
  rw [hc, kp_ac0, kp_cpyI, kp_ws_set (σ' := kp_fill σ k1 (σ k0) n.toNat) hL1.1 (by rw [hL1.2]; show Sum.inl _ = Sum.inl _; congr 4; funext j; rw [kp_fill_eq]) (fun _ hq => kp_fill_ne hq)] at hP
  exact hP
/-- System.arraycopy(a static int row, 0, b, 0, n) -/
theorem kp_acT (C : CallFix p m c cc nL s args kp_wl own) (G : kp_G X N s) (h : kp_H X lay N s σ H locs) (hl : ls.size = nL) {index i k1 n0 n1 : Nat} {n : Int} {rs1 : List (Option Nat)} (w1 : Cond.methodLink own index arraycopyName ∈ kp_wl) (w2 : Cond.native arraycopyName ∈ kp_wl) (w3 : Cond.static arraycopyName ∈ kp_wl) (w4 : Cond.initialized "java/lang/System" ∈ kp_wl) (hi : i < 3) (hL0 : (kp_tb i).length = n0) (hL1 : k1 < N ∧ lay k1 = (1, n1, rs1)) (hn : kp_in n ∧ 0 ≤ n ∧ n.toNat ≤ n0 ∧ n.toNat ≤ n1) (hd : 1 ≤ d) (hW : (rest.map fun v => v.category).sum ≤ 8) (hdg : decode cc pc = .ok (.invokestatic index, 3)) {f : kp_W → kp_R} (hF : kp_lt (kp_fill σ k1 (fun j => (kp_tb i).getD j 0) n.toNat) f = some o) (kk : ∀ (σ' : kp_W) (H1 : Heap) (locs1 : List Loc), kp_H X lay N s σ' H1 locs1 → f σ' = some o → W p l e (kp_rm d) s m args below meth c H1 locs1 0 0 Q (F0 m (pc + 3) ls rest)) : W p l e (kp_rm d) s m args below meth c H locs 0 0 Q (F0 m pc ls (kp_iv n :: kp_iv 0 :: .ref (kp_ad X k1) :: kp_iv 0 :: .ref (kp_tt X i) :: rest)) := by
  have hc : (Int32.ofInt n).toNatClampNeg = n.toNat := kp_cl hn.1
  have h3 := kp_nn n hn.1 hn.2.1
  have e3 : (Int32.ofInt n).toInt = (n.toNat : Int) := by rw [kp_ti hn.1]; omega
  have hP := h.1
  have hS := h.2
  have hD := kp_ws_D (X := X) (lay := lay) (σ := σ) G.2.1
  have ha1 := kp_arr (X := X) (σ := σ) hL1
  intro T hT Y
  obtain ⟨scr, hs1, hs2, hs3, hs4, -, hs5, hs7⟩ := (G.2.2.1 i hi).2
  rw [hL0] at hs4 hs5
  have hc0 : H[kp_tt X i]? = some scr := by rw [hS.2.1 _ (Array.getElem?_eq_some_iff.mp hs1).1 hs7]; exact hs1
  have hc1 : H[kp_ad X k1]? = some (vp_cell (kp_cy X 0) (n1, .inl fun j => Int32.ofInt (σ k1 j))) := hP k1 _ ha1
  obtain ⟨hs6, c0, hk0, cm0, hkk0⟩ := hs2
  obtain ⟨-, c1, hk1, cm1, hkk1⟩ := (G.1.2 0 _ rfl).1 n1 (fun j => .int (Int32.ofInt (σ k1 j)))
  obtain ⟨vm', Y', step⟩ := Y.arraycopy C.1 C.2.2.2.1 (C.2.2.2.2 _ w1) (C.2.2.2.2 _ w2) (C.2.2.2.2 _ w3) (C.2.2.2.2 _ w4) (src := kp_tt X i) (dst := kp_ad X k1) (cs := scr) (cd := vp_cell (kp_cy X 0) (n1, .inl fun j => Int32.ofInt (σ k1 j))) (srcPos := Int32.ofInt 0) (destPos := Int32.ofInt 0) (n := Int32.ofInt n) (by rw [hT]; exact hc0) (by rw [hT]; exact hc1)
    hs6 (fun _ h => by cases h) hs3 (fun h => by cases h) hk0 hk1 hkk0 hkk1 (by simp [refKind]) (by decide) (by decide) h3
    (by show ¬ (Int32.ofInt 0).toInt + (Int32.ofInt n).toInt > _; rw [e3, kp_ti kp_in0]; omega)
    (by show ¬ (Int32.ofInt 0).toInt + (Int32.ofInt n).toInt > ((arrV (kp_cy X 0) n1 (fun j => .int (Int32.ofInt (σ k1 j)))).slots.size : Int); rw [arrV_size, e3, kp_ti kp_in0]; omega)
    (fun vm₁ _ j hj => by
      rw [hc] at hj
      have e : scr.slots.getD ((Int32.ofInt 0).toNatClampNeg + j) .null = .int (Int32.ofInt ((kp_tb i).getD j 0)) := by
        rw [kp_ac0, Nat.zero_add, Array.getD_eq_getD_getElem?, hs5 _ (by omega)]
        rfl
      refine ⟨?_, ?_⟩
      · rw [e]
        rfl
      · rw [e]
        exact trivial)
    (g := F0 m pc ls (kp_iv n :: kp_iv 0 :: .ref (kp_ad X k1) :: kp_iv 0 :: .ref (kp_tt X i) :: rest)) rfl (hl.trans C.2.2.1.symm) (rest := rest) rfl (by rw [C.2.1]; exact hdg) hd (by have := kp_nfw hd hW; show 2 * 0 + _ + _ ≤ _; omega)
  have e1 : copied scr (vp_cell (kp_cy X 0) (n1, .inl fun j => Int32.ofInt (σ k1 j))) (Int32.ofInt 0) (Int32.ofInt 0) (Int32.ofInt n) = vp_cell (kp_cy X 0) (n1, .inl (va_cpy (fun j => Int32.ofInt ((kp_tb i).getD j 0)) (fun j => Int32.ofInt (σ k1 j)) (Int32.ofInt 0).toNatClampNeg (Int32.ofInt 0).toNatClampNeg (Int32.ofInt n).toNatClampNeg)) := va_copiedX (fun z => .int z) scr (kp_cy X 0) (fun j => Int32.ofInt ((kp_tb i).getD j 0)) (fun j => Int32.ofInt (σ k1 j)) hs5 (by rw [hc, kp_ac0]; omega)
  rw [e1, hc, kp_ac0, kp_cpyI] at Y' step
  have hlt : kp_ad X k1 < H.size := (Array.getElem?_eq_some_iff.mp hc1).1
  generalize hcell : vp_cell (kp_cy X 0) (n1, .inl fun j => Int32.ofInt (if j < n.toNat then (kp_tb i).getD j 0 else σ k1 j)) = cell at Y' step
  have hheap : ((T.setVm vm').setCell (kp_ad X k1) cell).heap = H.setIfInBounds (kp_ad X k1) cell := by rw [← hT]; rfl
  have oq : ∀ q : Nat, q ≠ kp_ad X k1 → (H.setIfInBounds (kp_ad X k1) cell)[q]? = H[q]? := fun q hq => by simp [Array.getElem?_setIfInBounds, Ne.symm hq]
  have hP2 := hP.set hD ha1 (e := .inl (kp_cy X 0, n1, .inl fun j => Int32.ofInt (if j < n.toNat then (kp_tb i).getD j 0 else σ k1 j))) (H1 := H.setIfInBounds (kp_ad X k1) cell) (show (H.setIfInBounds (kp_ad X k1) cell)[kp_ad X k1]? = some _ by rw [← hcell] at *; simp [Array.getElem?_setIfInBounds, hlt]) oq
  rw [kp_ws_set (σ' := kp_fill σ k1 (fun j => (kp_tb i).getD j 0) n.toNat) hL1.1 (by rw [hL1.2]; show Sum.inl _ = Sum.inl _; congr 4; funext j; rw [kp_fill_eq]) (fun _ hq => kp_fill_ne hq)] at hP2
  obtain ⟨t, a1, b1⟩ := kk _ _ _ ⟨hP2, ⟨by simp; exact hS.1, fun q g1 g2 => by
      rw [oq q (fun e => g2 (by rw [e]; exact ⟨k1, hL1.1, rfl⟩))]
      exact hS.2.1 q g1 g2, fun q hq => by
      rcases List.mem_append.mp hq with h | h
      · exact hS.2.2 q h
      · obtain ⟨z, -, hz⟩ := List.mem_map.mp h
        rw [← hz]
        exact ⟨k1, hL1.1, rfl⟩⟩⟩ hF _ hheap Y'
  exact ⟨t, step t a1, b1⟩
end KPM
end
section
-- the JDK's own methods that are called: bits counted, compare, and String's length and charAt over the literals
def kp_sI (x k : Int32) : Int32 := (x.toUInt32 >>> (k.toUInt32 &&& Int32.toUInt32 31)).toInt32
def kp_b1 (x : Int32) : Int32 := x - (kp_sI x 1 &&& 1431655765)
def kp_b2 (x : Int32) : Int32 := (x &&& 858993459) + (kp_sI x 2 &&& 858993459)
def kp_b3 (x : Int32) : Int32 := (x + kp_sI x 4) &&& 252645135
def kp_b4 (x : Int32) : Int32 := x + kp_sI x 8
def kp_b5 (x : Int32) : Int32 := x + kp_sI x 16
def kp_bc (x : Int) : Int := (kp_b5 (kp_b4 (kp_b3 (kp_b2 (kp_b1 (Int32.ofInt x))))) &&& 63).toInt
def kp_sL (x : Int64) (k : Int32) : Int64 := (x.toUInt64 >>> (k.toInt64.toUInt64 &&& Int64.toUInt64 63)).toInt64
def kp_c1 (x : Int64) : Int64 := x - (kp_sL x 1 &&& 6148914691236517205)
def kp_c2 (x : Int64) : Int64 := (x &&& 3689348814741910323) + (kp_sL x 2 &&& 3689348814741910323)
def kp_c3 (x : Int64) : Int64 := (x + kp_sL x 4) &&& 1085102592571150095
def kp_c4 (x : Int64) : Int64 := x + kp_sL x 8
def kp_c5 (x : Int64) : Int64 := x + kp_sL x 16
def kp_c6 (x : Int64) : Int64 := x + kp_sL x 32
def kp_bcL (x : Int) : Int := ((kp_c6 (kp_c5 (kp_c4 (kp_c3 (kp_c2 (kp_c1 (Int64.ofInt x))))))).toInt32 &&& 127).toInt
def kp_slen (i : Nat) : Int := ((kp_len.getD i 0 : Nat) : Int)
def kp_sch (i : Nat) (k : Int) : Int := (((kp_st.getD i []).getD k.toNat 0 : Nat) : Int)
theorem hd_J6_bitCount_0f7a4 : yJ6_bitCount_0f7a4.cls ≠ "java/lang/invoke/MethodHandle" ∧ yJ6_bitCount_0f7a4.cls ≠ "java/lang/invoke/VarHandle" ∧ (parseMethodDescriptor yJ6_bitCount_0f7a4.desc).map (fun d => d.parameters.length) = some 1 := by decide +kernel
theorem hd_J13_bitCount_95d88 : yJ13_bitCount_95d88.cls ≠ "java/lang/invoke/MethodHandle" ∧ yJ13_bitCount_95d88.cls ≠ "java/lang/invoke/VarHandle" ∧ (parseMethodDescriptor yJ13_bitCount_95d88.desc).map (fun d => d.parameters.length) = some 1 := by decide +kernel
theorem hd_J6_compare_7cf53 : yJ6_compare_7cf53.cls ≠ "java/lang/invoke/MethodHandle" ∧ yJ6_compare_7cf53.cls ≠ "java/lang/invoke/VarHandle" ∧ (parseMethodDescriptor yJ6_compare_7cf53.desc).map (fun d => d.parameters.length) = some 2 := by decide +kernel
theorem hd_J0_length_8abf5 : yJ0_length_8abf5.cls ≠ "java/lang/invoke/MethodHandle" ∧ yJ0_length_8abf5.cls ≠ "java/lang/invoke/VarHandle" ∧ (parseMethodDescriptor yJ0_length_8abf5.desc).map (fun d => d.parameters.length) = some 0 := by decide +kernel
theorem hd_J0_charAt_5068e : yJ0_charAt_5068e.cls ≠ "java/lang/invoke/MethodHandle" ∧ yJ0_charAt_5068e.cls ≠ "java/lang/invoke/VarHandle" ∧ (parseMethodDescriptor yJ0_charAt_5068e.desc).map (fun d => d.parameters.length) = some 1 := by decide +kernel
theorem hd_J0_coder : yJ0_coder_7d493.cls ≠ "java/lang/invoke/MethodHandle" ∧ yJ0_coder_7d493.cls ≠ "java/lang/invoke/VarHandle" ∧ (parseMethodDescriptor yJ0_coder_7d493.desc).map (fun d => d.parameters.length) = some 0 := by decide +kernel
theorem hd_J0_isLatin1 : yJ0_isLatin1_aae02.cls ≠ "java/lang/invoke/MethodHandle" ∧ yJ0_isLatin1_aae02.cls ≠ "java/lang/invoke/VarHandle" ∧ (parseMethodDescriptor yJ0_isLatin1_aae02.desc).map (fun d => d.parameters.length) = some 0 := by decide +kernel
theorem hd_J1_charAt : yJ1_charAt_3b067.cls ≠ "java/lang/invoke/MethodHandle" ∧ yJ1_charAt_3b067.cls ≠ "java/lang/invoke/VarHandle" ∧ (parseMethodDescriptor yJ1_charAt_3b067.desc).map (fun d => d.parameters.length) = some 2 := by decide +kernel
theorem hd_J0_checkIndex : yJ0_checkIndex_df160.cls ≠ "java/lang/invoke/MethodHandle" ∧ yJ0_checkIndex_df160.cls ≠ "java/lang/invoke/VarHandle" ∧ (parseMethodDescriptor yJ0_checkIndex_df160.desc).map (fun d => d.parameters.length) = some 2 := by decide +kernel
theorem hd_J3_checkIndex : yJ3_checkIndex_8e157.cls ≠ "java/lang/invoke/MethodHandle" ∧ yJ3_checkIndex_8e157.cls ≠ "java/lang/invoke/VarHandle" ∧ (parseMethodDescriptor yJ3_checkIndex_8e157.desc).map (fun d => d.parameters.length) = some 3 := by decide +kernel
theorem pnJ6 : plainName RJ6 = true := by decide +kernel
theorem pnJ13 : plainName RJ13 = true := by decide +kernel
theorem pnJ0 : plainName RJ0 = true := by decide +kernel
theorem pnJ1 : plainName RJ1 = true := by decide +kernel
theorem pnJ3 : plainName RJ3 = true := by decide +kernel
section KPJ
variable {p : Program} {l : Launch} {e : Env} {R : Room} {s : State} {m : MethodId} {args : Array Value} {below : List Frame} {meth : Method} {c : Code} {H : Heap} {locs : List Loc} {Q : State → Prop}
variable {cc : ByteArray} {nL : Nat} {own : String} {pc : Nat} {ls : Array Slot} {rest st : List Value} {X : kp_X} {lay : Nat → kp_D} {N : Nat} {σ σ' : kp_W} {r : Int}
variable {y : MethodName} {bytes : ByteArray} {maxL index n d dd : Nat} {ret : Option FieldType} {As : List Value} {Qc : Array Value → State → Outcome → State → Prop}
theorem kp_rT {i : Nat} (C : CallFix p m c cc nL s args kp_wl own) (G : kp_G X N s) (h : kp_H X lay N s σ H locs) (hi : i < 10) (hM : kp_Met l y bytes maxL ret dd X lay N σ (.ref (kp_sK X i) :: As) Qc) (w1 : Cond.methodLink own index y ∈ kp_wl) (w2 : Cond.instanceMethod y ∈ kp_wl) (w3 : Cond.selects "java/lang/String" y y ∈ kp_wl) (w4 : Cond.initialized "java/lang/String" ∈ kp_wl) (w5 : Cond.code y bytes maxL ret ∈ kp_wl) (hd : y.cls ≠ "java/lang/invoke/MethodHandle" ∧ y.cls ≠ "java/lang/invoke/VarHandle" ∧ (parseMethodDescriptor y.desc).map (fun d => d.parameters.length) = some n) (hR : dd + 1 ≤ d ∧ maxL ≤ 41) (hn : As.length = n) (hl : ls.size = nL) (hst : st = As.reverse ++ .ref (kp_sK X i) :: rest) (hW : (rest.map fun v => v.category).sum ≤ 8) (hdg : decode cc pc = .ok (.invokevirtual index, 3)) (hy : y.cls = "java/lang/String" := by rfl) : va_Run p l e (kp_rm d) s m args below meth c H locs 0 0 0 0 (F0 m pc ls st) rest (Qc (Value.ref (kp_sK X i) :: As).toArray) (kp_A X N) := by
  refine va_runV (C := "java/lang/String") C hM (cwV n C.2.2.2.2 ?_ rfl rfl rfl ⟨hy, hd⟩ (kp_rmle hR.1 hR.2)) ⟨kp_B_blind, vk_recv G.2.2.2.1 hi h.2, fun U hU hW => ⟨rfl, kp_B_of G h hU hW⟩⟩ rfl hn hl hst (lv_room hW) hdg ⟨Nat.zero_le _, Nat.zero_le _⟩
  unfold wsV
  refine kp_gapp (fun w hw => ?_) (kp_wsy w5)
  simp only [List.mem_cons, List.not_mem_nil, or_false] at hw
  rcases hw with rfl | rfl | rfl | rfl
  · exact kp_wl_good _ w1
  · exact kp_wl_good _ w2
  · exact kp_wl_good _ w3
  · exact kp_wl_good _ w4
end KPJ
section KPK
variable {l : Launch} {X : kp_X} {lay : Nat → kp_D} {N : Nat} {σ : kp_W}
set_option maxRecDepth 100000 in
theorem kc_bitCount {x : Int} : kp_Met l yJ6_bitCount_0f7a4 cJ6_bitCount_0f7a4 1 (some .int) 0 X lay N σ [kp_iv x] (kp_Qi X lay N σ (kp_bc x)) := by
  refine kp_body pnJ6 (Nat.le_of_ble_eq_true rfl) ?_
  intro p e s m args below meth c ls C hr hlk G h hl
  obtain ⟨x0, e0⟩ : ∃ x0, x0 = Int32.ofInt x := ⟨_, rfl⟩
  have hl : lv_has ls 1 [(0, .int x0)] := by rw [e0]; exact hl
  refine lv_iload_n C.1 C.2.1 dJ6_bitCount_0f7a4_0 rfl (lv_at hl 0 rfl) ?_
  refine lv_iload_n C.1 C.2.1 dJ6_bitCount_0f7a4_1 rfl (lv_at hl 0 rfl) ?_
  refine lv_iconst (v := 1) C.1 C.2.1 dJ6_bitCount_0f7a4_2 rfl ?_
  refine lv_iushr C.1 C.2.1 dJ6_bitCount_0f7a4_3 rfl ?_
  refine lv_ldcw (v := 1431655765) C.1 C.2.1 C.2.2.2.1 (C.2.2.2.2 _ q3_145) dJ6_bitCount_0f7a4_4 ?_
  refine lv_iand C.1 C.2.1 dJ6_bitCount_0f7a4_7 ?_
  refine lv_isub C.1 C.2.1 dJ6_bitCount_0f7a4_8 ?_
  refine lv_topi (fun x1 e1 => ?_)
  refine lv_istore_n (lv' := [(0, .int x1)]) C.1 C.2.1 dJ6_bitCount_0f7a4_9 rfl hl (by decide) rfl (fun ls hl => ?_)
  refine lv_iload_n C.1 C.2.1 dJ6_bitCount_0f7a4_10 rfl (lv_at hl 0 rfl) ?_
  refine lv_ldcw (v := 858993459) C.1 C.2.1 C.2.2.2.1 (C.2.2.2.2 _ q3_146) dJ6_bitCount_0f7a4_11 ?_
  refine lv_iand C.1 C.2.1 dJ6_bitCount_0f7a4_14 ?_
  refine lv_iload_n C.1 C.2.1 dJ6_bitCount_0f7a4_15 rfl (lv_at hl 0 rfl) ?_
  refine lv_iconst (v := 2) C.1 C.2.1 dJ6_bitCount_0f7a4_16 rfl ?_
  refine lv_iushr C.1 C.2.1 dJ6_bitCount_0f7a4_17 rfl ?_
  refine lv_ldcw (v := 858993459) C.1 C.2.1 C.2.2.2.1 (C.2.2.2.2 _ q3_146) dJ6_bitCount_0f7a4_18 ?_
  refine lv_iand C.1 C.2.1 dJ6_bitCount_0f7a4_21 ?_
  refine lv_iadd C.1 C.2.1 dJ6_bitCount_0f7a4_22 ?_
  refine lv_topi (fun x2 e2 => ?_)
  refine lv_istore_n (lv' := [(0, .int x2)]) C.1 C.2.1 dJ6_bitCount_0f7a4_23 rfl hl (by decide) rfl (fun ls hl => ?_)
  refine lv_iload_n C.1 C.2.1 dJ6_bitCount_0f7a4_24 rfl (lv_at hl 0 rfl) ?_
  refine lv_iload_n C.1 C.2.1 dJ6_bitCount_0f7a4_25 rfl (lv_at hl 0 rfl) ?_
  refine lv_iconst (v := 4) C.1 C.2.1 dJ6_bitCount_0f7a4_26 rfl ?_
  refine lv_iushr C.1 C.2.1 dJ6_bitCount_0f7a4_27 rfl ?_
  refine lv_iadd C.1 C.2.1 dJ6_bitCount_0f7a4_28 ?_
  refine lv_ldcw (v := 252645135) C.1 C.2.1 C.2.2.2.1 (C.2.2.2.2 _ q3_147) dJ6_bitCount_0f7a4_29 ?_
  refine lv_iand C.1 C.2.1 dJ6_bitCount_0f7a4_32 ?_
  refine lv_topi (fun x3 e3 => ?_)
  refine lv_istore_n (lv' := [(0, .int x3)]) C.1 C.2.1 dJ6_bitCount_0f7a4_33 rfl hl (by decide) rfl (fun ls hl => ?_)
  refine lv_iload_n C.1 C.2.1 dJ6_bitCount_0f7a4_34 rfl (lv_at hl 0 rfl) ?_
  refine lv_iload_n C.1 C.2.1 dJ6_bitCount_0f7a4_35 rfl (lv_at hl 0 rfl) ?_
  refine lv_bipush (v := 8) C.1 C.2.1 dJ6_bitCount_0f7a4_36 rfl ?_
  refine lv_iushr C.1 C.2.1 dJ6_bitCount_0f7a4_38 rfl ?_
  refine lv_iadd C.1 C.2.1 dJ6_bitCount_0f7a4_39 ?_
  refine lv_topi (fun x4 e4 => ?_)
  refine lv_istore_n (lv' := [(0, .int x4)]) C.1 C.2.1 dJ6_bitCount_0f7a4_40 rfl hl (by decide) rfl (fun ls hl => ?_)
  refine lv_iload_n C.1 C.2.1 dJ6_bitCount_0f7a4_41 rfl (lv_at hl 0 rfl) ?_
  refine lv_iload_n C.1 C.2.1 dJ6_bitCount_0f7a4_42 rfl (lv_at hl 0 rfl) ?_
  refine lv_bipush (v := 16) C.1 C.2.1 dJ6_bitCount_0f7a4_43 rfl ?_
  refine lv_iushr C.1 C.2.1 dJ6_bitCount_0f7a4_45 rfl ?_
  refine lv_iadd C.1 C.2.1 dJ6_bitCount_0f7a4_46 ?_
  refine lv_topi (fun x5 e5 => ?_)
  refine lv_istore_n (lv' := [(0, .int x5)]) C.1 C.2.1 dJ6_bitCount_0f7a4_47 rfl hl (by decide) rfl (fun ls hl => ?_)
  refine lv_iload_n C.1 C.2.1 dJ6_bitCount_0f7a4_48 rfl (lv_at hl 0 rfl) ?_
  refine lv_bipush (v := 63) C.1 C.2.1 dJ6_bitCount_0f7a4_49 rfl ?_
  refine lv_iand C.1 C.2.1 dJ6_bitCount_0f7a4_51 ?_
  have ev : Value.int (x5 &&& 63) = kp_iv (kp_bc x) := by
    subst e0 e1 e2 e3 e4 e5
    unfold kp_iv kp_bc
    rw [Int32.ofInt_toInt]
    rfl
  rw [ev]
  exact kp_reti C hr hlk G h dJ6_bitCount_0f7a4_52 rfl
set_option maxRecDepth 100000 in
theorem kc_bitCountL {x : Int} : kp_Met l yJ13_bitCount_95d88 cJ13_bitCount_95d88 2 (some .int) 0 X lay N σ [kp_jv x] (kp_Qi X lay N σ (kp_bcL x)) := by
  refine kp_body pnJ13 (Nat.le_of_ble_eq_true rfl) ?_
  intro p e s m args below meth c ls C hr hlk G h hl
  obtain ⟨x0, e0⟩ : ∃ x0, x0 = Int64.ofInt x := ⟨_, rfl⟩
  have hl : lv_has ls 2 [(0, .long x0)] := by rw [e0]; exact hl
  refine lv_lload_n C.1 C.2.1 dJ13_bitCount_95d88_0 rfl (lv_at hl 0 rfl) ?_
  refine lv_lload_n C.1 C.2.1 dJ13_bitCount_95d88_1 rfl (lv_at hl 0 rfl) ?_
  refine lv_iconst (v := 1) C.1 C.2.1 dJ13_bitCount_95d88_2 rfl ?_
  refine lv_lushr C.1 C.2.1 dJ13_bitCount_95d88_3 rfl ?_
  refine lv_ldc2 (v := 6148914691236517205) C.1 C.2.1 C.2.2.2.1 (C.2.2.2.2 _ q2_47) dJ13_bitCount_95d88_4 ?_
  refine lv_land C.1 C.2.1 dJ13_bitCount_95d88_7 ?_
  refine lv_lsub C.1 C.2.1 dJ13_bitCount_95d88_8 ?_
  refine lv_topl (fun x1 e1 => ?_)
  refine lv_lstore_n (lv' := [(0, .long x1)]) C.1 C.2.1 dJ13_bitCount_95d88_9 rfl hl (by decide) rfl (fun ls hl => ?_)
  refine lv_lload_n C.1 C.2.1 dJ13_bitCount_95d88_10 rfl (lv_at hl 0 rfl) ?_
  refine lv_ldc2 (v := 3689348814741910323) C.1 C.2.1 C.2.2.2.1 (C.2.2.2.2 _ q2_48) dJ13_bitCount_95d88_11 ?_
  refine lv_land C.1 C.2.1 dJ13_bitCount_95d88_14 ?_
  refine lv_lload_n C.1 C.2.1 dJ13_bitCount_95d88_15 rfl (lv_at hl 0 rfl) ?_
  refine lv_iconst (v := 2) C.1 C.2.1 dJ13_bitCount_95d88_16 rfl ?_
  refine lv_lushr C.1 C.2.1 dJ13_bitCount_95d88_17 rfl ?_
  refine lv_ldc2 (v := 3689348814741910323) C.1 C.2.1 C.2.2.2.1 (C.2.2.2.2 _ q2_48) dJ13_bitCount_95d88_18 ?_
  refine lv_land C.1 C.2.1 dJ13_bitCount_95d88_21 ?_
  refine lv_ladd C.1 C.2.1 dJ13_bitCount_95d88_22 ?_
  refine lv_topl (fun x2 e2 => ?_)
  refine lv_lstore_n (lv' := [(0, .long x2)]) C.1 C.2.1 dJ13_bitCount_95d88_23 rfl hl (by decide) rfl (fun ls hl => ?_)
  refine lv_lload_n C.1 C.2.1 dJ13_bitCount_95d88_24 rfl (lv_at hl 0 rfl) ?_
  refine lv_lload_n C.1 C.2.1 dJ13_bitCount_95d88_25 rfl (lv_at hl 0 rfl) ?_
  refine lv_iconst (v := 4) C.1 C.2.1 dJ13_bitCount_95d88_26 rfl ?_
  refine lv_lushr C.1 C.2.1 dJ13_bitCount_95d88_27 rfl ?_
  refine lv_ladd C.1 C.2.1 dJ13_bitCount_95d88_28 ?_
  refine lv_ldc2 (v := 1085102592571150095) C.1 C.2.1 C.2.2.2.1 (C.2.2.2.2 _ q2_49) dJ13_bitCount_95d88_29 ?_
  refine lv_land C.1 C.2.1 dJ13_bitCount_95d88_32 ?_
  refine lv_topl (fun x3 e3 => ?_)
  refine lv_lstore_n (lv' := [(0, .long x3)]) C.1 C.2.1 dJ13_bitCount_95d88_33 rfl hl (by decide) rfl (fun ls hl => ?_)
  refine lv_lload_n C.1 C.2.1 dJ13_bitCount_95d88_34 rfl (lv_at hl 0 rfl) ?_
  refine lv_lload_n C.1 C.2.1 dJ13_bitCount_95d88_35 rfl (lv_at hl 0 rfl) ?_
  refine lv_bipush (v := 8) C.1 C.2.1 dJ13_bitCount_95d88_36 rfl ?_
  refine lv_lushr C.1 C.2.1 dJ13_bitCount_95d88_38 rfl ?_
  refine lv_ladd C.1 C.2.1 dJ13_bitCount_95d88_39 ?_
  refine lv_topl (fun x4 e4 => ?_)
  refine lv_lstore_n (lv' := [(0, .long x4)]) C.1 C.2.1 dJ13_bitCount_95d88_40 rfl hl (by decide) rfl (fun ls hl => ?_)
  refine lv_lload_n C.1 C.2.1 dJ13_bitCount_95d88_41 rfl (lv_at hl 0 rfl) ?_
  refine lv_lload_n C.1 C.2.1 dJ13_bitCount_95d88_42 rfl (lv_at hl 0 rfl) ?_
  refine lv_bipush (v := 16) C.1 C.2.1 dJ13_bitCount_95d88_43 rfl ?_
  refine lv_lushr C.1 C.2.1 dJ13_bitCount_95d88_45 rfl ?_
  refine lv_ladd C.1 C.2.1 dJ13_bitCount_95d88_46 ?_
  refine lv_topl (fun x5 e5 => ?_)
  refine lv_lstore_n (lv' := [(0, .long x5)]) C.1 C.2.1 dJ13_bitCount_95d88_47 rfl hl (by decide) rfl (fun ls hl => ?_)
  refine lv_lload_n C.1 C.2.1 dJ13_bitCount_95d88_48 rfl (lv_at hl 0 rfl) ?_
  refine lv_lload_n C.1 C.2.1 dJ13_bitCount_95d88_49 rfl (lv_at hl 0 rfl) ?_
  refine lv_bipush (v := 32) C.1 C.2.1 dJ13_bitCount_95d88_50 rfl ?_
  refine lv_lushr C.1 C.2.1 dJ13_bitCount_95d88_52 rfl ?_
  refine lv_ladd C.1 C.2.1 dJ13_bitCount_95d88_53 ?_
  refine lv_topl (fun x6 e6 => ?_)
  refine lv_lstore_n (lv' := [(0, .long x6)]) C.1 C.2.1 dJ13_bitCount_95d88_54 rfl hl (by decide) rfl (fun ls hl => ?_)
  refine lv_lload_n C.1 C.2.1 dJ13_bitCount_95d88_55 rfl (lv_at hl 0 rfl) ?_
  refine lv_l2i C.1 C.2.1 dJ13_bitCount_95d88_56 rfl ?_
  refine lv_bipush (v := 127) C.1 C.2.1 dJ13_bitCount_95d88_57 rfl ?_
  refine lv_iand C.1 C.2.1 dJ13_bitCount_95d88_59 ?_
  have ev : Value.int (x6.toInt32 &&& 127) = kp_iv (kp_bcL x) := by
    subst e0 e1 e2 e3 e4 e5 e6
    unfold kp_iv kp_bcL
    rw [Int32.ofInt_toInt]
    rfl
  rw [ev]
  exact kp_reti C hr hlk G h dJ13_bitCount_95d88_60 rfl
theorem kc_compare {x y : Int} (hh : kp_in x ∧ kp_in y) : kp_Met l yJ6_compare_7cf53 cJ6_compare_7cf53 2 (some .int) 0 X lay N σ [kp_iv x, kp_iv y] (kp_Qi X lay N σ (kp_cmp x y)) := by
  refine kp_body pnJ6 (Nat.le_of_ble_eq_true rfl) ?_
  intro p e s m args below meth c ls C hr hlk G h hl
  have hl : lv_has ls 2 [(0, kp_iv x), (1, kp_iv y)] := hl
  have hF : kp_ls x y (some (-1, σ)) (kp_eq x y (some (0, σ)) (some (1, σ))) = some (kp_cmp x y, σ) := by
    unfold kp_ls kp_eq kp_cmp
    rw [if_pos hh, if_pos hh]
    by_cases a : x < y
    · rw [if_pos a, if_pos a]
    · rw [if_neg a, if_neg a]
      by_cases b : x = y
      · rw [if_pos b, if_pos b]
      · rw [if_neg b, if_neg b]
  refine kp_iload_n C dJ6_compare_7cf53_0 rfl (lv_at hl 0 rfl) ?_
  refine kp_iload_n C dJ6_compare_7cf53_1 rfl (lv_at hl 1 rfl) ?_
  refine kp_icmp_ge (tgt := 9) C dJ6_compare_7cf53_2 (by decide) hF (fun hF => ?_) (fun hF => ?_)
  · refine kp_iload_n C dJ6_compare_7cf53_9 rfl (lv_at hl 0 rfl) ?_
    refine kp_iload_n C dJ6_compare_7cf53_10 rfl (lv_at hl 1 rfl) ?_
    refine kp_icmp_ne (tgt := 18) C dJ6_compare_7cf53_11 (by decide) hF (fun hF => ?_) (fun hF => ?_)
    · refine kp_iconst C dJ6_compare_7cf53_18 ?_
      exact kp_reti C hr hlk G h dJ6_compare_7cf53_19 hF
    · refine kp_iconst C dJ6_compare_7cf53_14 ?_
      refine kp_goto (tgt := 19) C dJ6_compare_7cf53_15 (by decide) ?_
      exact kp_reti C hr hlk G h dJ6_compare_7cf53_19 hF
  · refine kp_iconst C dJ6_compare_7cf53_5 ?_
    refine kp_goto (tgt := 19) C dJ6_compare_7cf53_6 (by decide) ?_
    exact kp_reti C hr hlk G h dJ6_compare_7cf53_19 hF
theorem kc_length {i : Nat} (hi : i < 10) : kp_Met l yJ0_length_8abf5 cJ0_length_8abf5 1 (some .int) 1 X lay N σ [.ref (kp_sK X i)] (kp_Qi X lay N σ (kp_slen i)) := sorry
theorem kc_charAt {i : Nat} {k : Int} (hi : i < 10) (hk : 0 ≤ k ∧ k < kp_slen i) : kp_Met l yJ0_charAt_5068e cJ0_charAt_5068e 2 (some .char) 4 X lay N σ [.ref (kp_sK X i), kp_iv k] (kp_Qi X lay N σ (kp_sch i k)) := sorry
end KPK
end
