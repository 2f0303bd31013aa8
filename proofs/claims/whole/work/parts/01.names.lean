-- begun as the printed texts: the skeleton's PART A and NAMES.whole (cut by wip/whole/gen/names.py)
/-- a private method of a class that the tables say can be made, by its rows of tables_1 -/
def lw_okq (q : MethodName × Nat) : Prop := (q.1.cls ≠ "java/lang/invoke/MethodHandle" ∧ q.1.cls ≠ "java/lang/invoke/VarHandle") ∧ Cond.instantiable q.1.cls q.2 ∈ tables_1 ∧ Cond.privateMethod q.1 ∈ tables_1 ∧ Cond.instanceMethod q.1 ∈ tables_1
theorem lw_p0 : lw_okq (⟨"KnockPipes$Reader", "clause", "()Z"⟩, 3) := ⟨⟨by decide +kernel, by decide +kernel⟩, List.mem_of_getElem? (i := 181) (by decide +kernel), List.mem_of_getElem? (i := 311) (by decide +kernel), List.mem_of_getElem? (i := 312) (by decide +kernel)⟩
theorem lw_p1 : lw_okq (⟨"KnockPipes$Reader", "word", "()I"⟩, 3) := ⟨⟨by decide +kernel, by decide +kernel⟩, List.mem_of_getElem? (i := 181) (by decide +kernel), List.mem_of_getElem? (i := 315) (by decide +kernel), List.mem_of_getElem? (i := 316) (by decide +kernel)⟩
theorem lw_p2 : lw_okq (⟨"KnockPipes$Reader", "peek", "()I"⟩, 3) := ⟨⟨by decide +kernel, by decide +kernel⟩, List.mem_of_getElem? (i := 181) (by decide +kernel), List.mem_of_getElem? (i := 360) (by decide +kernel), List.mem_of_getElem? (i := 361) (by decide +kernel)⟩
theorem lw_p3 : lw_okq (⟨"KnockPipes$Reader", "eats", "(C)Z"⟩, 3) := ⟨⟨by decide +kernel, by decide +kernel⟩, List.mem_of_getElem? (i := 181) (by decide +kernel), List.mem_of_getElem? (i := 364) (by decide +kernel), List.mem_of_getElem? (i := 365) (by decide +kernel)⟩
theorem lw_p4 : lw_okq (⟨"KnockPipes$Reader", "number", "()I"⟩, 3) := ⟨⟨by decide +kernel, by decide +kernel⟩, List.mem_of_getElem? (i := 181) (by decide +kernel), List.mem_of_getElem? (i := 368) (by decide +kernel), List.mem_of_getElem? (i := 369) (by decide +kernel)⟩
theorem lw_p5 : lw_okq (⟨"KnockPipes$Reader", "either", "(I)Z"⟩, 3) := ⟨⟨by decide +kernel, by decide +kernel⟩, List.mem_of_getElem? (i := 181) (by decide +kernel), List.mem_of_getElem? (i := 372) (by decide +kernel), List.mem_of_getElem? (i := 373) (by decide +kernel)⟩
theorem lw_p6 : lw_okq (⟨"KnockPipes$Reader", "factor", "(I)Z"⟩, 3) := ⟨⟨by decide +kernel, by decide +kernel⟩, List.mem_of_getElem? (i := 181) (by decide +kernel), List.mem_of_getElem? (i := 376) (by decide +kernel), List.mem_of_getElem? (i := 377) (by decide +kernel)⟩
theorem lw_p7 : lw_okq (⟨"KnockPipes$Reader", "test", "()Z"⟩, 3) := ⟨⟨by decide +kernel, by decide +kernel⟩, List.mem_of_getElem? (i := 181) (by decide +kernel), List.mem_of_getElem? (i := 380) (by decide +kernel), List.mem_of_getElem? (i := 381) (by decide +kernel)⟩
theorem lw_p8 : lw_okq (⟨"KnockPipes$Reader", "oneOf", "(Ljava/lang/String;)I"⟩, 3) := ⟨⟨by decide +kernel, by decide +kernel⟩, List.mem_of_getElem? (i := 181) (by decide +kernel), List.mem_of_getElem? (i := 385) (by decide +kernel), List.mem_of_getElem? (i := 386) (by decide +kernel)⟩
theorem lw_p9 : lw_okq (⟨"KnockPipes", "settle", "()V"⟩, 8) := ⟨⟨by decide +kernel, by decide +kernel⟩, List.mem_of_getElem? (i := 21) (by decide +kernel), List.mem_of_getElem? (i := 425) (by decide +kernel), List.mem_of_getElem? (i := 426) (by decide +kernel)⟩
theorem lw_p10 : lw_okq (⟨"KnockPipes$Sounds", "holds", "(LKnockPipes$House;IILKnockPipes$Noises;I)J"⟩, 6) := ⟨⟨by decide +kernel, by decide +kernel⟩, List.mem_of_getElem? (i := 203) (by decide +kernel), List.mem_of_getElem? (i := 434) (by decide +kernel), List.mem_of_getElem? (i := 435) (by decide +kernel)⟩
theorem lw_p11 : lw_okq (⟨"KnockPipes", "ring", "(JJJ)V"⟩, 8) := ⟨⟨by decide +kernel, by decide +kernel⟩, List.mem_of_getElem? (i := 21) (by decide +kernel), List.mem_of_getElem? (i := 466) (by decide +kernel), List.mem_of_getElem? (i := 467) (by decide +kernel)⟩
theorem lw_p12 : lw_okq (⟨"KnockPipes$Sounds", "tick", "(IZ)V"⟩, 6) := ⟨⟨by decide +kernel, by decide +kernel⟩, List.mem_of_getElem? (i := 203) (by decide +kernel), List.mem_of_getElem? (i := 484) (by decide +kernel), List.mem_of_getElem? (i := 485) (by decide +kernel)⟩
theorem lw_p13 : lw_okq (⟨"KnockPipes$Sounds", "mark", "(IJIJ)V"⟩, 6) := ⟨⟨by decide +kernel, by decide +kernel⟩, List.mem_of_getElem? (i := 203) (by decide +kernel), List.mem_of_getElem? (i := 499) (by decide +kernel), List.mem_of_getElem? (i := 500) (by decide +kernel)⟩
theorem lw_p14 : lw_okq (⟨"KnockPipes", "loudOf", "(III)I"⟩, 8) := ⟨⟨by decide +kernel, by decide +kernel⟩, List.mem_of_getElem? (i := 21) (by decide +kernel), List.mem_of_getElem? (i := 551) (by decide +kernel), List.mem_of_getElem? (i := 552) (by decide +kernel)⟩
theorem lw_p15 : lw_okq (⟨"KnockPipes", "heardInDay", "(I)I"⟩, 8) := ⟨⟨by decide +kernel, by decide +kernel⟩, List.mem_of_getElem? (i := 21) (by decide +kernel), List.mem_of_getElem? (i := 567) (by decide +kernel), List.mem_of_getElem? (i := 568) (by decide +kernel)⟩
def lw_privs_1 : List (MethodName × Nat) := [(⟨"KnockPipes$Reader", "clause", "()Z"⟩, 3), (⟨"KnockPipes$Reader", "word", "()I"⟩, 3), (⟨"KnockPipes$Reader", "peek", "()I"⟩, 3), (⟨"KnockPipes$Reader", "eats", "(C)Z"⟩, 3), (⟨"KnockPipes$Reader", "number", "()I"⟩, 3), (⟨"KnockPipes$Reader", "either", "(I)Z"⟩, 3), (⟨"KnockPipes$Reader", "factor", "(I)Z"⟩, 3), (⟨"KnockPipes$Reader", "test", "()Z"⟩, 3), (⟨"KnockPipes$Reader", "oneOf", "(Ljava/lang/String;)I"⟩, 3), (⟨"KnockPipes", "settle", "()V"⟩, 8), (⟨"KnockPipes$Sounds", "holds", "(LKnockPipes$House;IILKnockPipes$Noises;I)J"⟩, 6), (⟨"KnockPipes", "ring", "(JJJ)V"⟩, 8), (⟨"KnockPipes$Sounds", "tick", "(IZ)V"⟩, 6), (⟨"KnockPipes$Sounds", "mark", "(IJIJ)V"⟩, 6), (⟨"KnockPipes", "loudOf", "(III)I"⟩, 8), (⟨"KnockPipes", "heardInDay", "(I)I"⟩, 8)]
theorem lw_r1 : ∀ q ∈ lw_privs_1, lw_okq q := List.forall_mem_cons.mpr ⟨lw_p0, List.forall_mem_cons.mpr ⟨lw_p1, List.forall_mem_cons.mpr ⟨lw_p2, List.forall_mem_cons.mpr ⟨lw_p3, List.forall_mem_cons.mpr ⟨lw_p4, List.forall_mem_cons.mpr ⟨lw_p5, List.forall_mem_cons.mpr ⟨lw_p6, List.forall_mem_cons.mpr ⟨lw_p7, List.forall_mem_cons.mpr ⟨lw_p8, List.forall_mem_cons.mpr ⟨lw_p9, List.forall_mem_cons.mpr ⟨lw_p10, List.forall_mem_cons.mpr ⟨lw_p11, List.forall_mem_cons.mpr ⟨lw_p12, List.forall_mem_cons.mpr ⟨lw_p13, List.forall_mem_cons.mpr ⟨lw_p14, List.forall_mem_cons.mpr ⟨lw_p15, fun _ h => absurd h List.not_mem_nil⟩⟩⟩⟩⟩⟩⟩⟩⟩⟩⟩⟩⟩⟩⟩⟩
theorem lw_p16 : lw_okq (⟨"KnockPipes", "heardAt", "(II)I"⟩, 8) := ⟨⟨by decide +kernel, by decide +kernel⟩, List.mem_of_getElem? (i := 21) (by decide +kernel), List.mem_of_getElem? (i := 571) (by decide +kernel), List.mem_of_getElem? (i := 572) (by decide +kernel)⟩
theorem lw_p17 : lw_okq (⟨"KnockPipes", "heardAlone", "(III)I"⟩, 8) := ⟨⟨by decide +kernel, by decide +kernel⟩, List.mem_of_getElem? (i := 21) (by decide +kernel), List.mem_of_getElem? (i := 575) (by decide +kernel), List.mem_of_getElem? (i := 576) (by decide +kernel)⟩
theorem lw_p18 : lw_okq (⟨"KnockPipes", "loudOfAll", "(II)I"⟩, 8) := ⟨⟨by decide +kernel, by decide +kernel⟩, List.mem_of_getElem? (i := 21) (by decide +kernel), List.mem_of_getElem? (i := 583) (by decide +kernel), List.mem_of_getElem? (i := 584) (by decide +kernel)⟩
theorem lw_p19 : lw_okq (⟨"KnockPipes", "fittingRows", "(I)I"⟩, 8) := ⟨⟨by decide +kernel, by decide +kernel⟩, List.mem_of_getElem? (i := 21) (by decide +kernel), List.mem_of_getElem? (i := 603) (by decide +kernel), List.mem_of_getElem? (i := 604) (by decide +kernel)⟩
theorem lw_p20 : lw_okq (⟨"KnockPipes", "mostFitting", "()I"⟩, 8) := ⟨⟨by decide +kernel, by decide +kernel⟩, List.mem_of_getElem? (i := 21) (by decide +kernel), List.mem_of_getElem? (i := 624) (by decide +kernel), List.mem_of_getElem? (i := 625) (by decide +kernel)⟩
theorem lw_p21 : lw_okq (⟨"KnockPipes", "allFitting", "()I"⟩, 8) := ⟨⟨by decide +kernel, by decide +kernel⟩, List.mem_of_getElem? (i := 21) (by decide +kernel), List.mem_of_getElem? (i := 628) (by decide +kernel), List.mem_of_getElem? (i := 629) (by decide +kernel)⟩
theorem lw_p22 : lw_okq (⟨"KnockPipes", "fitsAllRows", "(I)Z"⟩, 8) := ⟨⟨by decide +kernel, by decide +kernel⟩, List.mem_of_getElem? (i := 21) (by decide +kernel), List.mem_of_getElem? (i := 632) (by decide +kernel), List.mem_of_getElem? (i := 633) (by decide +kernel)⟩
theorem lw_p23 : lw_okq (⟨"KnockPipes", "shareOf", "(II)I"⟩, 8) := ⟨⟨by decide +kernel, by decide +kernel⟩, List.mem_of_getElem? (i := 21) (by decide +kernel), List.mem_of_getElem? (i := 636) (by decide +kernel), List.mem_of_getElem? (i := 637) (by decide +kernel)⟩
theorem lw_p24 : lw_okq (⟨"KnockPipes", "worst", "()I"⟩, 8) := ⟨⟨by decide +kernel, by decide +kernel⟩, List.mem_of_getElem? (i := 21) (by decide +kernel), List.mem_of_getElem? (i := 640) (by decide +kernel), List.mem_of_getElem? (i := 641) (by decide +kernel)⟩
theorem lw_p25 : lw_okq (⟨"KnockPipes", "harmOf", "(I)I"⟩, 8) := ⟨⟨by decide +kernel, by decide +kernel⟩, List.mem_of_getElem? (i := 21) (by decide +kernel), List.mem_of_getElem? (i := 644) (by decide +kernel), List.mem_of_getElem? (i := 645) (by decide +kernel)⟩
theorem lw_p26 : lw_okq (⟨"KnockPipes", "mostAlike", "(II)I"⟩, 8) := ⟨⟨by decide +kernel, by decide +kernel⟩, List.mem_of_getElem? (i := 21) (by decide +kernel), List.mem_of_getElem? (i := 652) (by decide +kernel), List.mem_of_getElem? (i := 653) (by decide +kernel)⟩
theorem lw_p27 : lw_okq (⟨"KnockPipes", "heardInDayOf", "(II)I"⟩, 8) := ⟨⟨by decide +kernel, by decide +kernel⟩, List.mem_of_getElem? (i := 21) (by decide +kernel), List.mem_of_getElem? (i := 664) (by decide +kernel), List.mem_of_getElem? (i := 665) (by decide +kernel)⟩
theorem lw_p28 : lw_okq (⟨"KnockPipes", "rowsHeard", "()I"⟩, 8) := ⟨⟨by decide +kernel, by decide +kernel⟩, List.mem_of_getElem? (i := 21) (by decide +kernel), List.mem_of_getElem? (i := 694) (by decide +kernel), List.mem_of_getElem? (i := 695) (by decide +kernel)⟩
theorem lw_p29 : lw_okq (⟨"KnockPipes$Acts", "send", "(IIII)I"⟩, 5) := ⟨⟨by decide +kernel, by decide +kernel⟩, List.mem_of_getElem? (i := 229) (by decide +kernel), List.mem_of_getElem? (i := 710) (by decide +kernel), List.mem_of_getElem? (i := 711) (by decide +kernel)⟩
theorem lw_p30 : lw_okq (⟨"KnockPipes$Acts", "run", "(IIII)I"⟩, 5) := ⟨⟨by decide +kernel, by decide +kernel⟩, List.mem_of_getElem? (i := 229) (by decide +kernel), List.mem_of_getElem? (i := 719) (by decide +kernel), List.mem_of_getElem? (i := 720) (by decide +kernel)⟩
theorem lw_p31 : lw_okq (⟨"KnockPipesModel", "clauseHere", "()V"⟩, 26) := ⟨⟨by decide +kernel, by decide +kernel⟩, List.mem_of_getElem? (i := 760) (by decide +kernel), List.mem_of_getElem? (i := 862) (by decide +kernel), List.mem_of_getElem? (i := 863) (by decide +kernel)⟩
def lw_privs_2 : List (MethodName × Nat) := [(⟨"KnockPipes", "heardAt", "(II)I"⟩, 8), (⟨"KnockPipes", "heardAlone", "(III)I"⟩, 8), (⟨"KnockPipes", "loudOfAll", "(II)I"⟩, 8), (⟨"KnockPipes", "fittingRows", "(I)I"⟩, 8), (⟨"KnockPipes", "mostFitting", "()I"⟩, 8), (⟨"KnockPipes", "allFitting", "()I"⟩, 8), (⟨"KnockPipes", "fitsAllRows", "(I)Z"⟩, 8), (⟨"KnockPipes", "shareOf", "(II)I"⟩, 8), (⟨"KnockPipes", "worst", "()I"⟩, 8), (⟨"KnockPipes", "harmOf", "(I)I"⟩, 8), (⟨"KnockPipes", "mostAlike", "(II)I"⟩, 8), (⟨"KnockPipes", "heardInDayOf", "(II)I"⟩, 8), (⟨"KnockPipes", "rowsHeard", "()I"⟩, 8), (⟨"KnockPipes$Acts", "send", "(IIII)I"⟩, 5), (⟨"KnockPipes$Acts", "run", "(IIII)I"⟩, 5), (⟨"KnockPipesModel", "clauseHere", "()V"⟩, 26)]
theorem lw_r2 : ∀ q ∈ lw_privs_2, lw_okq q := List.forall_mem_cons.mpr ⟨lw_p16, List.forall_mem_cons.mpr ⟨lw_p17, List.forall_mem_cons.mpr ⟨lw_p18, List.forall_mem_cons.mpr ⟨lw_p19, List.forall_mem_cons.mpr ⟨lw_p20, List.forall_mem_cons.mpr ⟨lw_p21, List.forall_mem_cons.mpr ⟨lw_p22, List.forall_mem_cons.mpr ⟨lw_p23, List.forall_mem_cons.mpr ⟨lw_p24, List.forall_mem_cons.mpr ⟨lw_p25, List.forall_mem_cons.mpr ⟨lw_p26, List.forall_mem_cons.mpr ⟨lw_p27, List.forall_mem_cons.mpr ⟨lw_p28, List.forall_mem_cons.mpr ⟨lw_p29, List.forall_mem_cons.mpr ⟨lw_p30, List.forall_mem_cons.mpr ⟨lw_p31, fun _ h => absurd h List.not_mem_nil⟩⟩⟩⟩⟩⟩⟩⟩⟩⟩⟩⟩⟩⟩⟩⟩
theorem lw_p32 : lw_okq (⟨"KnockPipesModel", "here", "()I"⟩, 26) := ⟨⟨by decide +kernel, by decide +kernel⟩, List.mem_of_getElem? (i := 760) (by decide +kernel), List.mem_of_getElem? (i := 866) (by decide +kernel), List.mem_of_getElem? (i := 867) (by decide +kernel)⟩
theorem lw_p33 : lw_okq (⟨"KnockPipesModel", "much", "(ILjava/lang/String;)V"⟩, 26) := ⟨⟨by decide +kernel, by decide +kernel⟩, List.mem_of_getElem? (i := 760) (by decide +kernel), List.mem_of_getElem? (i := 871) (by decide +kernel), List.mem_of_getElem? (i := 872) (by decide +kernel)⟩
theorem lw_p34 : lw_okq (⟨"KnockPipesModel", "spells", "(Ljava/lang/String;)V"⟩, 26) := ⟨⟨by decide +kernel, by decide +kernel⟩, List.mem_of_getElem? (i := 760) (by decide +kernel), List.mem_of_getElem? (i := 875) (by decide +kernel), List.mem_of_getElem? (i := 876) (by decide +kernel)⟩
theorem lw_p35 : lw_okq (⟨"KnockPipesModel", "must", "(I)V"⟩, 26) := ⟨⟨by decide +kernel, by decide +kernel⟩, List.mem_of_getElem? (i := 760) (by decide +kernel), List.mem_of_getElem? (i := 881) (by decide +kernel), List.mem_of_getElem? (i := 882) (by decide +kernel)⟩
theorem lw_p36 : lw_okq (⟨"KnockPipesModel", "figures", "()I"⟩, 26) := ⟨⟨by decide +kernel, by decide +kernel⟩, List.mem_of_getElem? (i := 760) (by decide +kernel), List.mem_of_getElem? (i := 885) (by decide +kernel), List.mem_of_getElem? (i := 886) (by decide +kernel)⟩
theorem lw_p37 : lw_okq (⟨"KnockPipesModel", "some", "()V"⟩, 26) := ⟨⟨by decide +kernel, by decide +kernel⟩, List.mem_of_getElem? (i := 760) (by decide +kernel), List.mem_of_getElem? (i := 889) (by decide +kernel), List.mem_of_getElem? (i := 890) (by decide +kernel)⟩
theorem lw_p38 : lw_okq (⟨"KnockPipesModel", "every", "()V"⟩, 26) := ⟨⟨by decide +kernel, by decide +kernel⟩, List.mem_of_getElem? (i := 760) (by decide +kernel), List.mem_of_getElem? (i := 893) (by decide +kernel), List.mem_of_getElem? (i := 894) (by decide +kernel)⟩
theorem lw_p39 : lw_okq (⟨"KnockPipesModel", "factor", "()V"⟩, 26) := ⟨⟨by decide +kernel, by decide +kernel⟩, List.mem_of_getElem? (i := 760) (by decide +kernel), List.mem_of_getElem? (i := 897) (by decide +kernel), List.mem_of_getElem? (i := 898) (by decide +kernel)⟩
theorem lw_p40 : lw_okq (⟨"KnockPipesModel", "emits", "(I)V"⟩, 26) := ⟨⟨by decide +kernel, by decide +kernel⟩, List.mem_of_getElem? (i := 760) (by decide +kernel), List.mem_of_getElem? (i := 901) (by decide +kernel), List.mem_of_getElem? (i := 902) (by decide +kernel)⟩
theorem lw_p41 : lw_okq (⟨"KnockPipesModel", "among", "(Ljava/lang/String;)I"⟩, 26) := ⟨⟨by decide +kernel, by decide +kernel⟩, List.mem_of_getElem? (i := 760) (by decide +kernel), List.mem_of_getElem? (i := 906) (by decide +kernel), List.mem_of_getElem? (i := 907) (by decide +kernel)⟩
theorem lw_p42 : lw_okq (⟨"KnockPipesModel", "clauseOfH", "()V"⟩, 26) := ⟨⟨by decide +kernel, by decide +kernel⟩, List.mem_of_getElem? (i := 760) (by decide +kernel), List.mem_of_getElem? (i := 911) (by decide +kernel), List.mem_of_getElem? (i := 912) (by decide +kernel)⟩
theorem lw_p43 : lw_okq (⟨"KnockPipesModel", "tellsHere", "(ILjava/lang/String;)V"⟩, 26) := ⟨⟨by decide +kernel, by decide +kernel⟩, List.mem_of_getElem? (i := 760) (by decide +kernel), List.mem_of_getElem? (i := 917) (by decide +kernel), List.mem_of_getElem? (i := 918) (by decide +kernel)⟩
theorem lw_p44 : lw_okq (⟨"KnockPipesModel", "tellsOf", "(II)I"⟩, 26) := ⟨⟨by decide +kernel, by decide +kernel⟩, List.mem_of_getElem? (i := 760) (by decide +kernel), List.mem_of_getElem? (i := 929) (by decide +kernel), List.mem_of_getElem? (i := 930) (by decide +kernel)⟩
theorem lw_p45 : lw_okq (⟨"KnockPipesModel", "warms", "()V"⟩, 26) := ⟨⟨by decide +kernel, by decide +kernel⟩, List.mem_of_getElem? (i := 760) (by decide +kernel), List.mem_of_getElem? (i := 940) (by decide +kernel), List.mem_of_getElem? (i := 941) (by decide +kernel)⟩
theorem lw_p46 : lw_okq (⟨"KnockPipesModel", "isOn", "(II)Z"⟩, 26) := ⟨⟨by decide +kernel, by decide +kernel⟩, List.mem_of_getElem? (i := 760) (by decide +kernel), List.mem_of_getElem? (i := 944) (by decide +kernel), List.mem_of_getElem? (i := 945) (by decide +kernel)⟩
theorem lw_p47 : lw_okq (⟨"KnockPipesModel", "isNoise", "(I)Z"⟩, 26) := ⟨⟨by decide +kernel, by decide +kernel⟩, List.mem_of_getElem? (i := 760) (by decide +kernel), List.mem_of_getElem? (i := 960) (by decide +kernel), List.mem_of_getElem? (i := 961) (by decide +kernel)⟩
def lw_privs_3 : List (MethodName × Nat) := [(⟨"KnockPipesModel", "here", "()I"⟩, 26), (⟨"KnockPipesModel", "much", "(ILjava/lang/String;)V"⟩, 26), (⟨"KnockPipesModel", "spells", "(Ljava/lang/String;)V"⟩, 26), (⟨"KnockPipesModel", "must", "(I)V"⟩, 26), (⟨"KnockPipesModel", "figures", "()I"⟩, 26), (⟨"KnockPipesModel", "some", "()V"⟩, 26), (⟨"KnockPipesModel", "every", "()V"⟩, 26), (⟨"KnockPipesModel", "factor", "()V"⟩, 26), (⟨"KnockPipesModel", "emits", "(I)V"⟩, 26), (⟨"KnockPipesModel", "among", "(Ljava/lang/String;)I"⟩, 26), (⟨"KnockPipesModel", "clauseOfH", "()V"⟩, 26), (⟨"KnockPipesModel", "tellsHere", "(ILjava/lang/String;)V"⟩, 26), (⟨"KnockPipesModel", "tellsOf", "(II)I"⟩, 26), (⟨"KnockPipesModel", "warms", "()V"⟩, 26), (⟨"KnockPipesModel", "isOn", "(II)Z"⟩, 26), (⟨"KnockPipesModel", "isNoise", "(I)Z"⟩, 26)]
theorem lw_r3 : ∀ q ∈ lw_privs_3, lw_okq q := List.forall_mem_cons.mpr ⟨lw_p32, List.forall_mem_cons.mpr ⟨lw_p33, List.forall_mem_cons.mpr ⟨lw_p34, List.forall_mem_cons.mpr ⟨lw_p35, List.forall_mem_cons.mpr ⟨lw_p36, List.forall_mem_cons.mpr ⟨lw_p37, List.forall_mem_cons.mpr ⟨lw_p38, List.forall_mem_cons.mpr ⟨lw_p39, List.forall_mem_cons.mpr ⟨lw_p40, List.forall_mem_cons.mpr ⟨lw_p41, List.forall_mem_cons.mpr ⟨lw_p42, List.forall_mem_cons.mpr ⟨lw_p43, List.forall_mem_cons.mpr ⟨lw_p44, List.forall_mem_cons.mpr ⟨lw_p45, List.forall_mem_cons.mpr ⟨lw_p46, List.forall_mem_cons.mpr ⟨lw_p47, fun _ h => absurd h List.not_mem_nil⟩⟩⟩⟩⟩⟩⟩⟩⟩⟩⟩⟩⟩⟩⟩⟩
theorem lw_p48 : lw_okq (⟨"KnockPipesModel", "goes", "()V"⟩, 26) := ⟨⟨by decide +kernel, by decide +kernel⟩, List.mem_of_getElem? (i := 760) (by decide +kernel), List.mem_of_getElem? (i := 972) (by decide +kernel), List.mem_of_getElem? (i := 973) (by decide +kernel)⟩
theorem lw_p49 : lw_okq (⟨"KnockPipesModel", "goesOf", "(I)V"⟩, 26) := ⟨⟨by decide +kernel, by decide +kernel⟩, List.mem_of_getElem? (i := 760) (by decide +kernel), List.mem_of_getElem? (i := 976) (by decide +kernel), List.mem_of_getElem? (i := 977) (by decide +kernel)⟩
theorem lw_p50 : lw_okq (⟨"KnockPipesModel", "ticks", "(I)V"⟩, 26) := ⟨⟨by decide +kernel, by decide +kernel⟩, List.mem_of_getElem? (i := 760) (by decide +kernel), List.mem_of_getElem? (i := 980) (by decide +kernel), List.mem_of_getElem? (i := 981) (by decide +kernel)⟩
theorem lw_p51 : lw_okq (⟨"KnockPipesModel", "lengthOf", "(II)I"⟩, 26) := ⟨⟨by decide +kernel, by decide +kernel⟩, List.mem_of_getElem? (i := 760) (by decide +kernel), List.mem_of_getElem? (i := 984) (by decide +kernel), List.mem_of_getElem? (i := 985) (by decide +kernel)⟩
theorem lw_p52 : lw_okq (⟨"KnockPipesModel", "looksAt", "(II)V"⟩, 26) := ⟨⟨by decide +kernel, by decide +kernel⟩, List.mem_of_getElem? (i := 760) (by decide +kernel), List.mem_of_getElem? (i := 988) (by decide +kernel), List.mem_of_getElem? (i := 989) (by decide +kernel)⟩
theorem lw_p53 : lw_okq (⟨"KnockPipesModel", "strikesBy", "(I)V"⟩, 26) := ⟨⟨by decide +kernel, by decide +kernel⟩, List.mem_of_getElem? (i := 760) (by decide +kernel), List.mem_of_getElem? (i := 995) (by decide +kernel), List.mem_of_getElem? (i := 996) (by decide +kernel)⟩
theorem lw_p54 : lw_okq (⟨"KnockPipesModel", "hums", "(IZ)V"⟩, 26) := ⟨⟨by decide +kernel, by decide +kernel⟩, List.mem_of_getElem? (i := 760) (by decide +kernel), List.mem_of_getElem? (i := 999) (by decide +kernel), List.mem_of_getElem? (i := 1000) (by decide +kernel)⟩
theorem lw_p55 : lw_okq (⟨"KnockPipesModel", "plainly", "(I)V"⟩, 26) := ⟨⟨by decide +kernel, by decide +kernel⟩, List.mem_of_getElem? (i := 760) (by decide +kernel), List.mem_of_getElem? (i := 1003) (by decide +kernel), List.mem_of_getElem? (i := 1004) (by decide +kernel)⟩
theorem lw_p56 : lw_okq (⟨"KnockPipesModel", "isStill", "(I)Z"⟩, 26) := ⟨⟨by decide +kernel, by decide +kernel⟩, List.mem_of_getElem? (i := 760) (by decide +kernel), List.mem_of_getElem? (i := 1007) (by decide +kernel), List.mem_of_getElem? (i := 1008) (by decide +kernel)⟩
theorem lw_p57 : lw_okq (⟨"KnockPipesModel", "loudOf", "(III)I"⟩, 26) := ⟨⟨by decide +kernel, by decide +kernel⟩, List.mem_of_getElem? (i := 760) (by decide +kernel), List.mem_of_getElem? (i := 1015) (by decide +kernel), List.mem_of_getElem? (i := 1016) (by decide +kernel)⟩
theorem lw_p58 : lw_okq (⟨"KnockPipesModel", "isStruck", "(I)Z"⟩, 26) := ⟨⟨by decide +kernel, by decide +kernel⟩, List.mem_of_getElem? (i := 760) (by decide +kernel), List.mem_of_getElem? (i := 1019) (by decide +kernel), List.mem_of_getElem? (i := 1020) (by decide +kernel)⟩
theorem lw_p59 : lw_okq (⟨"KnockPipesModel", "moving", "()I"⟩, 26) := ⟨⟨by decide +kernel, by decide +kernel⟩, List.mem_of_getElem? (i := 760) (by decide +kernel), List.mem_of_getElem? (i := 1027) (by decide +kernel), List.mem_of_getElem? (i := 1028) (by decide +kernel)⟩
theorem lw_p60 : lw_okq (⟨"KnockPipesModel", "heardAll", "(II)I"⟩, 26) := ⟨⟨by decide +kernel, by decide +kernel⟩, List.mem_of_getElem? (i := 760) (by decide +kernel), List.mem_of_getElem? (i := 1031) (by decide +kernel), List.mem_of_getElem? (i := 1032) (by decide +kernel)⟩
theorem lw_p61 : lw_okq (⟨"KnockPipesModel", "heardOf", "(III)I"⟩, 26) := ⟨⟨by decide +kernel, by decide +kernel⟩, List.mem_of_getElem? (i := 760) (by decide +kernel), List.mem_of_getElem? (i := 1035) (by decide +kernel), List.mem_of_getElem? (i := 1036) (by decide +kernel)⟩
theorem lw_p62 : lw_okq (⟨"KnockPipesModel", "fitsOf", "(I)I"⟩, 26) := ⟨⟨by decide +kernel, by decide +kernel⟩, List.mem_of_getElem? (i := 760) (by decide +kernel), List.mem_of_getElem? (i := 1055) (by decide +kernel), List.mem_of_getElem? (i := 1056) (by decide +kernel)⟩
theorem lw_p63 : lw_okq (⟨"KnockPipesModel", "mostFitting", "()I"⟩, 26) := ⟨⟨by decide +kernel, by decide +kernel⟩, List.mem_of_getElem? (i := 760) (by decide +kernel), List.mem_of_getElem? (i := 1073) (by decide +kernel), List.mem_of_getElem? (i := 1074) (by decide +kernel)⟩
def lw_privs_4 : List (MethodName × Nat) := [(⟨"KnockPipesModel", "goes", "()V"⟩, 26), (⟨"KnockPipesModel", "goesOf", "(I)V"⟩, 26), (⟨"KnockPipesModel", "ticks", "(I)V"⟩, 26), (⟨"KnockPipesModel", "lengthOf", "(II)I"⟩, 26), (⟨"KnockPipesModel", "looksAt", "(II)V"⟩, 26), (⟨"KnockPipesModel", "strikesBy", "(I)V"⟩, 26), (⟨"KnockPipesModel", "hums", "(IZ)V"⟩, 26), (⟨"KnockPipesModel", "plainly", "(I)V"⟩, 26), (⟨"KnockPipesModel", "isStill", "(I)Z"⟩, 26), (⟨"KnockPipesModel", "loudOf", "(III)I"⟩, 26), (⟨"KnockPipesModel", "isStruck", "(I)Z"⟩, 26), (⟨"KnockPipesModel", "moving", "()I"⟩, 26), (⟨"KnockPipesModel", "heardAll", "(II)I"⟩, 26), (⟨"KnockPipesModel", "heardOf", "(III)I"⟩, 26), (⟨"KnockPipesModel", "fitsOf", "(I)I"⟩, 26), (⟨"KnockPipesModel", "mostFitting", "()I"⟩, 26)]
theorem lw_r4 : ∀ q ∈ lw_privs_4, lw_okq q := List.forall_mem_cons.mpr ⟨lw_p48, List.forall_mem_cons.mpr ⟨lw_p49, List.forall_mem_cons.mpr ⟨lw_p50, List.forall_mem_cons.mpr ⟨lw_p51, List.forall_mem_cons.mpr ⟨lw_p52, List.forall_mem_cons.mpr ⟨lw_p53, List.forall_mem_cons.mpr ⟨lw_p54, List.forall_mem_cons.mpr ⟨lw_p55, List.forall_mem_cons.mpr ⟨lw_p56, List.forall_mem_cons.mpr ⟨lw_p57, List.forall_mem_cons.mpr ⟨lw_p58, List.forall_mem_cons.mpr ⟨lw_p59, List.forall_mem_cons.mpr ⟨lw_p60, List.forall_mem_cons.mpr ⟨lw_p61, List.forall_mem_cons.mpr ⟨lw_p62, List.forall_mem_cons.mpr ⟨lw_p63, fun _ h => absurd h List.not_mem_nil⟩⟩⟩⟩⟩⟩⟩⟩⟩⟩⟩⟩⟩⟩⟩⟩
theorem lw_p64 : lw_okq (⟨"KnockPipesModel", "allFitting", "()I"⟩, 26) := ⟨⟨by decide +kernel, by decide +kernel⟩, List.mem_of_getElem? (i := 760) (by decide +kernel), List.mem_of_getElem? (i := 1077) (by decide +kernel), List.mem_of_getElem? (i := 1078) (by decide +kernel)⟩
theorem lw_p65 : lw_okq (⟨"KnockPipesModel", "worst", "()I"⟩, 26) := ⟨⟨by decide +kernel, by decide +kernel⟩, List.mem_of_getElem? (i := 760) (by decide +kernel), List.mem_of_getElem? (i := 1081) (by decide +kernel), List.mem_of_getElem? (i := 1082) (by decide +kernel)⟩
theorem lw_p66 : lw_okq (⟨"KnockPipesModel", "harmOf", "(I)I"⟩, 26) := ⟨⟨by decide +kernel, by decide +kernel⟩, List.mem_of_getElem? (i := 760) (by decide +kernel), List.mem_of_getElem? (i := 1085) (by decide +kernel), List.mem_of_getElem? (i := 1086) (by decide +kernel)⟩
theorem lw_p67 : lw_okq (⟨"KnockPipesModel", "growsActs", "(I)I"⟩, 26) := ⟨⟨by decide +kernel, by decide +kernel⟩, List.mem_of_getElem? (i := 760) (by decide +kernel), List.mem_of_getElem? (i := 1126) (by decide +kernel), List.mem_of_getElem? (i := 1127) (by decide +kernel)⟩
theorem lw_p68 : lw_okq (⟨"KnockPipesModel", "runs", "(I)V"⟩, 26) := ⟨⟨by decide +kernel, by decide +kernel⟩, List.mem_of_getElem? (i := 760) (by decide +kernel), List.mem_of_getElem? (i := 1133) (by decide +kernel), List.mem_of_getElem? (i := 1134) (by decide +kernel)⟩
theorem lw_p69 : lw_okq (⟨"KnockPipesModel", "plainGrows", "(I)I"⟩, 26) := ⟨⟨by decide +kernel, by decide +kernel⟩, List.mem_of_getElem? (i := 760) (by decide +kernel), List.mem_of_getElem? (i := 1137) (by decide +kernel), List.mem_of_getElem? (i := 1138) (by decide +kernel)⟩
theorem lw_p70 : lw_okq (⟨"KnockPipesModel", "strikesActs", "(I)I"⟩, 26) := ⟨⟨by decide +kernel, by decide +kernel⟩, List.mem_of_getElem? (i := 760) (by decide +kernel), List.mem_of_getElem? (i := 1141) (by decide +kernel), List.mem_of_getElem? (i := 1142) (by decide +kernel)⟩
theorem lw_p71 : lw_okq (⟨"KnockPipesModel", "plainStrikes", "(I)I"⟩, 26) := ⟨⟨by decide +kernel, by decide +kernel⟩, List.mem_of_getElem? (i := 760) (by decide +kernel), List.mem_of_getElem? (i := 1145) (by decide +kernel), List.mem_of_getElem? (i := 1146) (by decide +kernel)⟩
theorem lw_p72 : lw_okq (⟨"KnockPipesModel", "tellsActs", "(I)I"⟩, 26) := ⟨⟨by decide +kernel, by decide +kernel⟩, List.mem_of_getElem? (i := 760) (by decide +kernel), List.mem_of_getElem? (i := 1149) (by decide +kernel), List.mem_of_getElem? (i := 1150) (by decide +kernel)⟩
theorem lw_p73 : lw_okq (⟨"KnockPipesModel", "plainTells", "(I)I"⟩, 26) := ⟨⟨by decide +kernel, by decide +kernel⟩, List.mem_of_getElem? (i := 760) (by decide +kernel), List.mem_of_getElem? (i := 1153) (by decide +kernel), List.mem_of_getElem? (i := 1154) (by decide +kernel)⟩
def lw_privs_5 : List (MethodName × Nat) := [(⟨"KnockPipesModel", "allFitting", "()I"⟩, 26), (⟨"KnockPipesModel", "worst", "()I"⟩, 26), (⟨"KnockPipesModel", "harmOf", "(I)I"⟩, 26), (⟨"KnockPipesModel", "growsActs", "(I)I"⟩, 26), (⟨"KnockPipesModel", "runs", "(I)V"⟩, 26), (⟨"KnockPipesModel", "plainGrows", "(I)I"⟩, 26), (⟨"KnockPipesModel", "strikesActs", "(I)I"⟩, 26), (⟨"KnockPipesModel", "plainStrikes", "(I)I"⟩, 26), (⟨"KnockPipesModel", "tellsActs", "(I)I"⟩, 26), (⟨"KnockPipesModel", "plainTells", "(I)I"⟩, 26)]
theorem lw_r5 : ∀ q ∈ lw_privs_5, lw_okq q := List.forall_mem_cons.mpr ⟨lw_p64, List.forall_mem_cons.mpr ⟨lw_p65, List.forall_mem_cons.mpr ⟨lw_p66, List.forall_mem_cons.mpr ⟨lw_p67, List.forall_mem_cons.mpr ⟨lw_p68, List.forall_mem_cons.mpr ⟨lw_p69, List.forall_mem_cons.mpr ⟨lw_p70, List.forall_mem_cons.mpr ⟨lw_p71, List.forall_mem_cons.mpr ⟨lw_p72, List.forall_mem_cons.mpr ⟨lw_p73, fun _ h => absurd h List.not_mem_nil⟩⟩⟩⟩⟩⟩⟩⟩⟩⟩
def lw_privs : List (MethodName × Nat) := lw_privs_1 ++ (lw_privs_2 ++ (lw_privs_3 ++ (lw_privs_4 ++ (lw_privs_5))))
def lw_tbl : List Cond := k2_sels lw_privs ++ tables_1
theorem lw_privs_ok : ∀ q ∈ lw_privs, lw_okq q := by
  show ∀ q ∈ lw_privs_1 ++ (lw_privs_2 ++ (lw_privs_3 ++ (lw_privs_4 ++ (lw_privs_5)))), lw_okq q
  exact List.forall_mem_append.mpr ⟨lw_r1, List.forall_mem_append.mpr ⟨lw_r2, List.forall_mem_append.mpr ⟨lw_r3, List.forall_mem_append.mpr ⟨lw_r4, lw_r5⟩⟩⟩⟩
def RX0 : String := "KnockPipes$Acts"
def TX0 : u_T := fun k => match k with
  | 0 => ("KnockPipes$Acts", "trace", "[I", true)
  | 1 => ("KnockPipes$Acts", "ran", "I", false)
  | 2 => ("KnockPipes$Acts", "kind", "I", false)
  | 3 => ("KnockPipes$Acts", "number", "I", false)
  | _ => ("KnockPipes$Acts", "v", "I", false)
def tyX0 : Nat → FieldType := fun k => match k with
  | 0 => .array .int
  | 1 => .int
  | 2 => .int
  | 3 => .int
  | _ => .int
abbrev wsX00 : List Cond := u_ws RX0 TX0 5
theorem nmX0 : ∀ a, a < 5 → ∀ b, b < 5 → a ≠ b → (TX0 a).2.1 ≠ (TX0 b).2.1 := by decide +kernel
theorem tyX0_ok : ∀ k, k < 5 → parseFieldDescriptor (TX0 k).2.2.1 = some (tyX0 k) := by decide +kernel
abbrev cX0_init : ByteArray := prog_2_method_1_code
def yX0_init : MethodName := ⟨RX0, "<init>", "()V"⟩
abbrev cX0_start : ByteArray := prog_2_method_2_code
def yX0_start : MethodName := ⟨RX0, "start", "(LKnockPipes$Noises;III)I"⟩
abbrev cX0_send : ByteArray := prog_2_method_3_code
def yX0_send : MethodName := ⟨RX0, "send", "(IIII)I"⟩
abbrev cX0_bodyOf : ByteArray := prog_2_method_4_code
def yX0_bodyOf : MethodName := ⟨RX0, "bodyOf", "(II)I"⟩
abbrev cX0_run : ByteArray := prog_2_method_5_code
def yX0_run : MethodName := ⟨RX0, "run", "(IIII)I"⟩
def RX1 : String := "KnockPipes$Home"
def TX1 : u_T := fun k => match k with
  | 0 => ("KnockPipes$Home", "day", "[J", true)
  | 1 => ("KnockPipes$Home", "tape", "LKnockPipes$Tape;", true)
  | 2 => ("KnockPipes$Home", "house", "LKnockPipes$House;", true)
  | 3 => ("KnockPipes$Home", "noises", "LKnockPipes$Noises;", true)
  | 4 => ("KnockPipes$Home", "book", "LKnockPipes$Notebook;", true)
  | _ => ("KnockPipes$Home", "houses", "I", false)
def tyX1 : Nat → FieldType := fun k => match k with
  | 0 => .array .long
  | 1 => .object "KnockPipes$Tape"
  | 2 => .object "KnockPipes$House"
  | 3 => .object "KnockPipes$Noises"
  | 4 => .object "KnockPipes$Notebook"
  | _ => .int
abbrev wsX10 : List Cond := u_ws RX1 TX1 6
theorem nmX1 : ∀ a, a < 6 → ∀ b, b < 6 → a ≠ b → (TX1 a).2.1 ≠ (TX1 b).2.1 := by decide +kernel
theorem tyX1_ok : ∀ k, k < 6 → parseFieldDescriptor (TX1 k).2.2.1 = some (tyX1 k) := by decide +kernel
abbrev cX1_init : ByteArray := prog_3_method_1_code
def yX1_init : MethodName := ⟨RX1, "<init>", "()V"⟩
abbrev cX1_copy : ByteArray := prog_3_method_2_code
def yX1_copy : MethodName := ⟨RX1, "copy", "(LKnockPipes$Home;)V"⟩
def RX2 : String := "KnockPipes$House"
def TX2 : u_T := fun k => match k with
  | 0 => ("KnockPipes$House", "numbers", "[I", true)
  | 1 => ("KnockPipes$House", "codes", "[I", true)
  | 2 => ("KnockPipes$House", "amount", "[I", true)
  | 3 => ("KnockPipes$House", "end", "[I", true)
  | 4 => ("KnockPipes$House", "growing", "I", false)
  | 5 => ("KnockPipes$House", "clauses", "I", false)
  | _ => ("KnockPipes$House", "size", "I", false)
def tyX2 : Nat → FieldType := fun k => match k with
  | 0 => .array .int
  | 1 => .array .int
  | 2 => .array .int
  | 3 => .array .int
  | 4 => .int
  | 5 => .int
  | _ => .int
abbrev wsX20 : List Cond := u_ws RX2 TX2 7
theorem nmX2 : ∀ a, a < 7 → ∀ b, b < 7 → a ≠ b → (TX2 a).2.1 ≠ (TX2 b).2.1 := by decide +kernel
theorem tyX2_ok : ∀ k, k < 7 → parseFieldDescriptor (TX2 k).2.2.1 = some (tyX2 k) := by decide +kernel
abbrev cX2_init : ByteArray := prog_4_method_1_code
def yX2_init : MethodName := ⟨RX2, "<init>", "()V"⟩
abbrev cX2_empty : ByteArray := prog_4_method_2_code
def yX2_empty : MethodName := ⟨RX2, "empty", "()V"⟩
abbrev cX2_put : ByteArray := prog_4_method_3_code
def yX2_put : MethodName := ⟨RX2, "put", "(I)V"⟩
abbrev cX2_grows : ByteArray := prog_4_method_4_code
def yX2_grows : MethodName := ⟨RX2, "grows", "(I)Z"⟩
abbrev cX2_close : ByteArray := prog_4_method_5_code
def yX2_close : MethodName := ⟨RX2, "close", "(ZI)V"⟩
abbrev cX2_copy : ByteArray := prog_4_method_6_code
def yX2_copy : MethodName := ⟨RX2, "copy", "(LKnockPipes$House;)V"⟩
def RX3 : String := "KnockPipes$Noises"
def TX3 : u_T := fun k => match k with
  | 0 => ("KnockPipes$Noises", "kind", "[I", true)
  | 1 => ("KnockPipes$Noises", "place", "[I", true)
  | 2 => ("KnockPipes$Noises", "v", "[I", true)
  | 3 => ("KnockPipes$Noises", "loudness", "[I", true)
  | 4 => ("KnockPipes$Noises", "still", "I", false)
  | _ => ("KnockPipes$Noises", "count", "I", false)
def tyX3 : Nat → FieldType := fun k => match k with
  | 0 => .array .int
  | 1 => .array .int
  | 2 => .array .int
  | 3 => .array .int
  | 4 => .int
  | _ => .int
abbrev wsX30 : List Cond := u_ws RX3 TX3 6
theorem nmX3 : ∀ a, a < 6 → ∀ b, b < 6 → a ≠ b → (TX3 a).2.1 ≠ (TX3 b).2.1 := by decide +kernel
theorem tyX3_ok : ∀ k, k < 6 → parseFieldDescriptor (TX3 k).2.2.1 = some (tyX3 k) := by decide +kernel
abbrev cX3_init : ByteArray := prog_5_method_1_code
def yX3_init : MethodName := ⟨RX3, "<init>", "()V"⟩
abbrev cX3_has : ByteArray := prog_5_method_2_code
def yX3_has : MethodName := ⟨RX3, "has", "(I)Z"⟩
abbrev cX3_isLoose : ByteArray := prog_5_method_3_code
def yX3_isLoose : MethodName := ⟨RX3, "isLoose", "(I)Z"⟩
abbrev cX3_loose : ByteArray := prog_5_method_4_code
def yX3_loose : MethodName := ⟨RX3, "loose", "()I"⟩
abbrev cX3_add : ByteArray := prog_5_method_5_code
def yX3_add : MethodName := ⟨RX3, "add", "(IIII)I"⟩
abbrev cX3_copy : ByteArray := prog_5_method_6_code
def yX3_copy : MethodName := ⟨RX3, "copy", "(LKnockPipes$Noises;)V"⟩
def RX4 : String := "KnockPipes$Notebook"
def TX4 : u_T := fun k => match k with
  | 0 => ("KnockPipes$Notebook", "place", "[I", true)
  | 1 => ("KnockPipes$Notebook", "minute", "[I", true)
  | 2 => ("KnockPipes$Notebook", "n", "[I", true)
  | _ => ("KnockPipes$Notebook", "count", "I", false)
def tyX4 : Nat → FieldType := fun k => match k with
  | 0 => .array .int
  | 1 => .array .int
  | 2 => .array .int
  | _ => .int
abbrev wsX40 : List Cond := u_ws RX4 TX4 4
theorem nmX4 : ∀ a, a < 4 → ∀ b, b < 4 → a ≠ b → (TX4 a).2.1 ≠ (TX4 b).2.1 := by decide +kernel
theorem tyX4_ok : ∀ k, k < 4 → parseFieldDescriptor (TX4 k).2.2.1 = some (tyX4 k) := by decide +kernel
abbrev cX4_init : ByteArray := prog_6_method_1_code
def yX4_init : MethodName := ⟨RX4, "<init>", "()V"⟩
abbrev cX4_add : ByteArray := prog_6_method_2_code
def yX4_add : MethodName := ⟨RX4, "add", "(III)I"⟩
abbrev cX4_copy : ByteArray := prog_6_method_3_code
def yX4_copy : MethodName := ⟨RX4, "copy", "(LKnockPipes$Notebook;)V"⟩
def RX5 : String := "KnockPipes$Reader"
def TX5 : u_T := fun k => match k with
  | 0 => ("KnockPipes$Reader", "draft", "LKnockPipes$House;", true)
  | 1 => ("KnockPipes$Reader", "tape", "LKnockPipes$Tape;", true)
  | _ => ("KnockPipes$Reader", "at", "I", false)
def tyX5 : Nat → FieldType := fun k => match k with
  | 0 => .object "KnockPipes$House"
  | 1 => .object "KnockPipes$Tape"
  | _ => .int
abbrev wsX50 : List Cond := u_ws RX5 TX5 3
theorem nmX5 : ∀ a, a < 3 → ∀ b, b < 3 → a ≠ b → (TX5 a).2.1 ≠ (TX5 b).2.1 := by decide +kernel
theorem tyX5_ok : ∀ k, k < 3 → parseFieldDescriptor (TX5 k).2.2.1 = some (tyX5 k) := by decide +kernel
abbrev cX5_init : ByteArray := prog_7_method_1_code
def yX5_init : MethodName := ⟨RX5, "<init>", "()V"⟩
abbrev cX5_reads : ByteArray := prog_7_method_2_code
def yX5_reads : MethodName := ⟨RX5, "reads", "(LKnockPipes$Tape;)Z"⟩
abbrev cX5_peek : ByteArray := prog_7_method_3_code
def yX5_peek : MethodName := ⟨RX5, "peek", "()I"⟩
abbrev cX5_eats : ByteArray := prog_7_method_4_code
def yX5_eats : MethodName := ⟨RX5, "eats", "(C)Z"⟩
abbrev cX5_clause : ByteArray := prog_7_method_5_code
def yX5_clause : MethodName := ⟨RX5, "clause", "()Z"⟩
abbrev cX5_word : ByteArray := prog_7_method_6_code
def yX5_word : MethodName := ⟨RX5, "word", "()I"⟩
abbrev cX5_number : ByteArray := prog_7_method_7_code
def yX5_number : MethodName := ⟨RX5, "number", "()I"⟩
abbrev cX5_either : ByteArray := prog_7_method_8_code
def yX5_either : MethodName := ⟨RX5, "either", "(I)Z"⟩
abbrev cX5_factor : ByteArray := prog_7_method_9_code
def yX5_factor : MethodName := ⟨RX5, "factor", "(I)Z"⟩
abbrev cX5_test : ByteArray := prog_7_method_10_code
def yX5_test : MethodName := ⟨RX5, "test", "()Z"⟩
abbrev cX5_oneOf : ByteArray := prog_7_method_11_code
def yX5_oneOf : MethodName := ⟨RX5, "oneOf", "(Ljava/lang/String;)I"⟩
def RX6 : String := "KnockPipes$Sounds"
def TX6 : u_T := fun k => match k with
  | 0 => ("KnockPipes$Sounds", "warmth", "[I", true)
  | 1 => ("KnockPipes$Sounds", "growth", "[I", true)
  | 2 => ("KnockPipes$Sounds", "hold", "[I", true)
  | 3 => ("KnockPipes$Sounds", "knocks", "[I", true)
  | 4 => ("KnockPipes$Sounds", "bare", "[J", true)
  | _ => ("KnockPipes$Sounds", "stack", "[J", true)
def tyX6 : Nat → FieldType := fun k => match k with
  | 0 => .array .int
  | 1 => .array .int
  | 2 => .array .int
  | 3 => .array .int
  | 4 => .array .long
  | _ => .array .long
abbrev wsX60 : List Cond := u_ws RX6 TX6 6
theorem nmX6 : ∀ a, a < 6 → ∀ b, b < 6 → a ≠ b → (TX6 a).2.1 ≠ (TX6 b).2.1 := by decide +kernel
theorem tyX6_ok : ∀ k, k < 6 → parseFieldDescriptor (TX6 k).2.2.1 = some (tyX6 k) := by decide +kernel
abbrev cX6_init : ByteArray := prog_8_method_1_code
def yX6_init : MethodName := ⟨RX6, "<init>", "()V"⟩
abbrev cX6_lengthOf : ByteArray := prog_8_method_2_code
def yX6_lengthOf : MethodName := ⟨RX6, "lengthOf", "(II)I"⟩
abbrev cX6_holdOf : ByteArray := prog_8_method_3_code
def yX6_holdOf : MethodName := ⟨RX6, "holdOf", "(II)I"⟩
abbrev cX6_knocksOf : ByteArray := prog_8_method_4_code
def yX6_knocksOf : MethodName := ⟨RX6, "knocksOf", "(II)I"⟩
abbrev cX6_knockingOf : ByteArray := prog_8_method_5_code
def yX6_knockingOf : MethodName := ⟨RX6, "knockingOf", "(I)J"⟩
abbrev cX6_read : ByteArray := prog_8_method_6_code
def yX6_read : MethodName := ⟨RX6, "read", "(LKnockPipes$House;LKnockPipes$Noises;I)V"⟩
abbrev cX6_addTo : ByteArray := prog_8_method_7_code
def yX6_addTo : MethodName := ⟨RX6, "addTo", "([IIJI)V"⟩
abbrev cX6_holds : ByteArray := prog_8_method_8_code
def yX6_holds : MethodName := ⟨RX6, "holds", "(LKnockPipes$House;IILKnockPipes$Noises;I)J"⟩
abbrev cX6_minutesOf : ByteArray := prog_8_method_9_code
def yX6_minutesOf : MethodName := ⟨RX6, "minutesOf", "(ILKnockPipes$Noises;I)J"⟩
abbrev cX6_warm : ByteArray := prog_8_method_10_code
def yX6_warm : MethodName := ⟨RX6, "warm", "(LKnockPipes$House;J)V"⟩
abbrev cX6_knock : ByteArray := prog_8_method_11_code
def yX6_knock : MethodName := ⟨RX6, "knock", "(LKnockPipes$Noises;IJJ)V"⟩
abbrev cX6_mark : ByteArray := prog_8_method_12_code
def yX6_mark : MethodName := ⟨RX6, "mark", "(IJIJ)V"⟩
abbrev cX6_lasting : ByteArray := prog_8_method_13_code
def yX6_lasting : MethodName := ⟨RX6, "lasting", "(JI)J"⟩
abbrev cX6_tick : ByteArray := prog_8_method_14_code
def yX6_tick : MethodName := ⟨RX6, "tick", "(IZ)V"⟩
def RX7 : String := "KnockPipes$Tape"
def TX7 : u_T := fun k => match k with
  | 0 => ("KnockPipes$Tape", "bytes", "[I", true)
  | _ => ("KnockPipes$Tape", "size", "I", false)
def tyX7 : Nat → FieldType := fun k => match k with
  | 0 => .array .int
  | _ => .int
abbrev wsX70 : List Cond := u_ws RX7 TX7 2
theorem nmX7 : ∀ a, a < 2 → ∀ b, b < 2 → a ≠ b → (TX7 a).2.1 ≠ (TX7 b).2.1 := by decide +kernel
theorem tyX7_ok : ∀ k, k < 2 → parseFieldDescriptor (TX7 k).2.2.1 = some (tyX7 k) := by decide +kernel
abbrev cX7_init : ByteArray := prog_9_method_1_code
def yX7_init : MethodName := ⟨RX7, "<init>", "()V"⟩
abbrev cX7_add : ByteArray := prog_9_method_2_code
def yX7_add : MethodName := ⟨RX7, "add", "(I)V"⟩
abbrev cX7_copy : ByteArray := prog_9_method_3_code
def yX7_copy : MethodName := ⟨RX7, "copy", "(LKnockPipes$Tape;)V"⟩
def RX8 : String := "KnockPipes$Test"
def TX8 : u_T := fun k => match k with
  | _ => ("", "", "", false)
def tyX8 : Nat → FieldType := fun k => match k with
  | _ => .int
abbrev wsX80 : List Cond := u_ws RX8 TX8 0
theorem nmX8 : ∀ a, a < 0 → ∀ b, b < 0 → a ≠ b → (TX8 a).2.1 ≠ (TX8 b).2.1 := by decide +kernel
theorem tyX8_ok : ∀ k, k < 0 → parseFieldDescriptor (TX8 k).2.2.1 = some (tyX8 k) := by decide +kernel
abbrev cX8_code : ByteArray := prog_10_method_2_code
def yX8_code : MethodName := ⟨RX8, "code", "(III)I"⟩
abbrev cX8_subject : ByteArray := prog_10_method_3_code
def yX8_subject : MethodName := ⟨RX8, "subject", "(I)I"⟩
abbrev cX8_sign : ByteArray := prog_10_method_4_code
def yX8_sign : MethodName := ⟨RX8, "sign", "(I)I"⟩
abbrev cX8_number : ByteArray := prog_10_method_5_code
def yX8_number : MethodName := ⟨RX8, "number", "(I)I"⟩
abbrev cX8_holds : ByteArray := prog_10_method_6_code
def yX8_holds : MethodName := ⟨RX8, "holds", "(II)Z"⟩
abbrev cX8_minutes : ByteArray := prog_10_method_7_code
def yX8_minutes : MethodName := ⟨RX8, "minutes", "(I)J"⟩
def RX9 : String := "KnockPipes"
def TX9 : u_T := fun k => match k with
  | 0 => ("KnockPipes", "now", "LKnockPipes$Home;", true)
  | 1 => ("KnockPipes", "kept", "LKnockPipes$Home;", true)
  | 2 => ("KnockPipes", "imaged", "Z", false)
  | 3 => ("KnockPipes", "reader", "LKnockPipes$Reader;", true)
  | 4 => ("KnockPipes", "sounds", "LKnockPipes$Sounds;", true)
  | 5 => ("KnockPipes", "acts", "LKnockPipes$Acts;", true)
  | 6 => ("KnockPipes", "settled", "Z", false)
  | _ => ("KnockPipes", "shares", "[I", true)
def tyX9 : Nat → FieldType := fun k => match k with
  | 0 => .object "KnockPipes$Home"
  | 1 => .object "KnockPipes$Home"
  | 2 => .boolean
  | 3 => .object "KnockPipes$Reader"
  | 4 => .object "KnockPipes$Sounds"
  | 5 => .object "KnockPipes$Acts"
  | 6 => .boolean
  | _ => .array .int
abbrev wsX90 : List Cond := u_ws RX9 TX9 8
theorem nmX9 : ∀ a, a < 8 → ∀ b, b < 8 → a ≠ b → (TX9 a).2.1 ≠ (TX9 b).2.1 := by decide +kernel
theorem tyX9_ok : ∀ k, k < 8 → parseFieldDescriptor (TX9 k).2.2.1 = some (tyX9 k) := by decide +kernel
abbrev cX9_init : ByteArray := prog_1_method_1_code
def yX9_init : MethodName := ⟨RX9, "<init>", "()V"⟩
abbrev cX9_day : ByteArray := prog_1_method_2_code
def yX9_day : MethodName := ⟨RX9, "day", "(IJ)I"⟩
abbrev cX9_feed : ByteArray := prog_1_method_3_code
def yX9_feed : MethodName := ⟨RX9, "feed", "(JI)I"⟩
abbrev cX9_house : ByteArray := prog_1_method_4_code
def yX9_house : MethodName := ⟨RX9, "house", "()I"⟩
abbrev cX9_told : ByteArray := prog_1_method_5_code
def yX9_told : MethodName := ⟨RX9, "told", "(I)I"⟩
abbrev cX9_warmth : ByteArray := prog_1_method_6_code
def yX9_warmth : MethodName := ⟨RX9, "warmth", "(I)I"⟩
abbrev cX9_noise : ByteArray := prog_1_method_7_code
def yX9_noise : MethodName := ⟨RX9, "noise", "(IIII)I"⟩
abbrev cX9_of : ByteArray := prog_1_method_8_code
def yX9_of : MethodName := ⟨RX9, "of", "(II)I"⟩
abbrev cX9_still : ByteArray := prog_1_method_9_code
def yX9_still : MethodName := ⟨RX9, "still", "(IZ)I"⟩
abbrev cX9_knocks : ByteArray := prog_1_method_10_code
def yX9_knocks : MethodName := ⟨RX9, "knocks", "(III)I"⟩
abbrev cX9_loud : ByteArray := prog_1_method_11_code
def yX9_loud : MethodName := ⟨RX9, "loud", "(III)I"⟩
abbrev cX9_heard : ByteArray := prog_1_method_12_code
def yX9_heard : MethodName := ⟨RX9, "heard", "(II)I"⟩
abbrev cX9_seems : ByteArray := prog_1_method_13_code
def yX9_seems : MethodName := ⟨RX9, "seems", "(I)I"⟩
abbrev cX9_note : ByteArray := prog_1_method_14_code
def yX9_note : MethodName := ⟨RX9, "note", "(III)I"⟩
abbrev cX9_clear : ByteArray := prog_1_method_15_code
def yX9_clear : MethodName := ⟨RX9, "clear", "()I"⟩
abbrev cX9_fits : ByteArray := prog_1_method_16_code
def yX9_fits : MethodName := ⟨RX9, "fits", "(I)I"⟩
abbrev cX9_odds : ByteArray := prog_1_method_17_code
def yX9_odds : MethodName := ⟨RX9, "odds", "(II)I"⟩
abbrev cX9_which : ByteArray := prog_1_method_18_code
def yX9_which : MethodName := ⟨RX9, "which", "(I)I"⟩
abbrev cX9_next : ByteArray := prog_1_method_19_code
def yX9_next : MethodName := ⟨RX9, "next", "()I"⟩
abbrev cX9_least : ByteArray := prog_1_method_20_code
def yX9_least : MethodName := ⟨RX9, "least", "(II)I"⟩
abbrev cX9_eased : ByteArray := prog_1_method_21_code
def yX9_eased : MethodName := ⟨RX9, "eased", "(II)I"⟩
abbrev cX9_parted : ByteArray := prog_1_method_22_code
def yX9_parted : MethodName := ⟨RX9, "parted", "(II)J"⟩
abbrev cX9_quiet : ByteArray := prog_1_method_23_code
def yX9_quiet : MethodName := ⟨RX9, "quiet", "(I)I"⟩
abbrev cX9_moved : ByteArray := prog_1_method_24_code
def yX9_moved : MethodName := ⟨RX9, "moved", "(II)I"⟩
abbrev cX9_older : ByteArray := prog_1_method_25_code
def yX9_older : MethodName := ⟨RX9, "older", "()I"⟩
abbrev cX9_harm : ByteArray := prog_1_method_26_code
def yX9_harm : MethodName := ⟨RX9, "harm", "(I)I"⟩
abbrev cX9_act : ByteArray := prog_1_method_27_code
def yX9_act : MethodName := ⟨RX9, "act", "(III)I"⟩
abbrev cX9_trace : ByteArray := prog_1_method_28_code
def yX9_trace : MethodName := ⟨RX9, "trace", "(I)I"⟩
abbrev cX9_as : ByteArray := prog_1_method_29_code
def yX9_as : MethodName := ⟨RX9, "as", "(II)I"⟩
abbrev cX9_image : ByteArray := prog_1_method_30_code
def yX9_image : MethodName := ⟨RX9, "image", "()I"⟩
abbrev cX9_undo : ByteArray := prog_1_method_31_code
def yX9_undo : MethodName := ⟨RX9, "undo", "()I"⟩
abbrev cX9_count : ByteArray := prog_1_method_32_code
def yX9_count : MethodName := ⟨RX9, "count", "(I)I"⟩
abbrev cX9_isMinute : ByteArray := prog_1_method_33_code
def yX9_isMinute : MethodName := ⟨RX9, "isMinute", "(I)Z"⟩
abbrev cX9_isPlace : ByteArray := prog_1_method_34_code
def yX9_isPlace : MethodName := ⟨RX9, "isPlace", "(I)Z"⟩
abbrev cX9_isKind : ByteArray := prog_1_method_35_code
def yX9_isKind : MethodName := ⟨RX9, "isKind", "(I)Z"⟩
abbrev cX9_above : ByteArray := prog_1_method_36_code
def yX9_above : MethodName := ⟨RX9, "above", "(I)I"⟩
abbrev cX9_isUnder : ByteArray := prog_1_method_37_code
def yX9_isUnder : MethodName := ⟨RX9, "isUnder", "(II)Z"⟩
abbrev cX9_greatestShared : ByteArray := prog_1_method_38_code
def yX9_greatestShared : MethodName := ⟨RX9, "greatestShared", "(II)I"⟩
abbrev cX9_settle : ByteArray := prog_1_method_39_code
def yX9_settle : MethodName := ⟨RX9, "settle", "()V"⟩
abbrev cX9_ring : ByteArray := prog_1_method_40_code
def yX9_ring : MethodName := ⟨RX9, "ring", "(JJJ)V"⟩
abbrev cX9_loudOf : ByteArray := prog_1_method_41_code
def yX9_loudOf : MethodName := ⟨RX9, "loudOf", "(III)I"⟩
abbrev cX9_heardAlone : ByteArray := prog_1_method_42_code
def yX9_heardAlone : MethodName := ⟨RX9, "heardAlone", "(III)I"⟩
abbrev cX9_heardInDayOf : ByteArray := prog_1_method_43_code
def yX9_heardInDayOf : MethodName := ⟨RX9, "heardInDayOf", "(II)I"⟩
abbrev cX9_heardAt : ByteArray := prog_1_method_44_code
def yX9_heardAt : MethodName := ⟨RX9, "heardAt", "(II)I"⟩
abbrev cX9_heardInDay : ByteArray := prog_1_method_45_code
def yX9_heardInDay : MethodName := ⟨RX9, "heardInDay", "(I)I"⟩
abbrev cX9_loudOfAll : ByteArray := prog_1_method_46_code
def yX9_loudOfAll : MethodName := ⟨RX9, "loudOfAll", "(II)I"⟩
abbrev cX9_fittingRows : ByteArray := prog_1_method_47_code
def yX9_fittingRows : MethodName := ⟨RX9, "fittingRows", "(I)I"⟩
abbrev cX9_mostFitting : ByteArray := prog_1_method_48_code
def yX9_mostFitting : MethodName := ⟨RX9, "mostFitting", "()I"⟩
abbrev cX9_allFitting : ByteArray := prog_1_method_49_code
def yX9_allFitting : MethodName := ⟨RX9, "allFitting", "()I"⟩
abbrev cX9_fitsAllRows : ByteArray := prog_1_method_50_code
def yX9_fitsAllRows : MethodName := ⟨RX9, "fitsAllRows", "(I)Z"⟩
abbrev cX9_shareOf : ByteArray := prog_1_method_51_code
def yX9_shareOf : MethodName := ⟨RX9, "shareOf", "(II)I"⟩
abbrev cX9_worst : ByteArray := prog_1_method_52_code
def yX9_worst : MethodName := ⟨RX9, "worst", "()I"⟩
abbrev cX9_harmOf : ByteArray := prog_1_method_53_code
def yX9_harmOf : MethodName := ⟨RX9, "harmOf", "(I)I"⟩
abbrev cX9_mostAlike : ByteArray := prog_1_method_54_code
def yX9_mostAlike : MethodName := ⟨RX9, "mostAlike", "(II)I"⟩
abbrev cX9_rowsHeard : ByteArray := prog_1_method_55_code
def yX9_rowsHeard : MethodName := ⟨RX9, "rowsHeard", "()I"⟩
def RX10 : String := "KnockPipesModel"
def TX10 : u_T := fun k => match k with
  | 0 => ("KnockPipesModel", "thrown", "I", false)
  | 1 => ("KnockPipesModel", "s", "[I", true)
  | 2 => ("KnockPipesModel", "image", "[I", true)
  | 3 => ("KnockPipesModel", "hasImage", "Z", false)
  | 4 => ("KnockPipesModel", "act", "I", false)
  | 5 => ("KnockPipesModel", "spot", "I", false)
  | 6 => ("KnockPipesModel", "end", "I", false)
  | 7 => ("KnockPipesModel", "isWrong", "Z", false)
  | 8 => ("KnockPipesModel", "open", "I", false)
  | 9 => ("KnockPipesModel", "by", "[I", true)
  | 10 => ("KnockPipesModel", "truths", "[Z", true)
  | 11 => ("KnockPipesModel", "grows", "I", false)
  | 12 => ("KnockPipesModel", "holds", "I", false)
  | 13 => ("KnockPipesModel", "anyHolds", "Z", false)
  | 14 => ("KnockPipesModel", "warmths", "[I", true)
  | 15 => ("KnockPipesModel", "beats", "[I", true)
  | 16 => ("KnockPipesModel", "isQuietDay", "Z", false)
  | 17 => ("KnockPipesModel", "late", "I", false)
  | 18 => ("KnockPipesModel", "easing", "I", false)
  | 19 => ("KnockPipesModel", "heardThere", "[I", true)
  | 20 => ("KnockPipesModel", "heardIn", "[I", true)
  | 21 => ("KnockPipesModel", "bodies", "[I", true)
  | 22 => ("KnockPipesModel", "ran", "I", false)
  | 23 => ("KnockPipesModel", "kind", "I", false)
  | 24 => ("KnockPipesModel", "number", "I", false)
  | _ => ("KnockPipesModel", "tellsV", "I", false)
def tyX10 : Nat → FieldType := fun k => match k with
  | 0 => .int
  | 1 => .array .int
  | 2 => .array .int
  | 3 => .boolean
  | 4 => .int
  | 5 => .int
  | 6 => .int
  | 7 => .boolean
  | 8 => .int
  | 9 => .array .int
  | 10 => .array .boolean
  | 11 => .int
  | 12 => .int
  | 13 => .boolean
  | 14 => .array .int
  | 15 => .array .int
  | 16 => .boolean
  | 17 => .int
  | 18 => .int
  | 19 => .array .int
  | 20 => .array .int
  | 21 => .array .int
  | 22 => .int
  | 23 => .int
  | 24 => .int
  | _ => .int
abbrev wsX100 : List Cond := u_ws RX10 TX10 26
theorem nmX10 : ∀ a, a < 26 → ∀ b, b < 26 → a ≠ b → (TX10 a).2.1 ≠ (TX10 b).2.1 := by decide +kernel
theorem tyX10_ok : ∀ k, k < 26 → parseFieldDescriptor (TX10 k).2.2.1 = some (tyX10 k) := by decide +kernel
abbrev cX10_init : ByteArray := prog_12_method_1_code
def yX10_init : MethodName := ⟨RX10, "<init>", "()V"⟩
abbrev cX10_in : ByteArray := prog_12_method_3_code
def yX10_in : MethodName := ⟨RX10, "in", "(III)Z"⟩
abbrev cX10_size : ByteArray := prog_12_method_4_code
def yX10_size : MethodName := ⟨RX10, "size", "(I)I"⟩
abbrev cX10_isNoise : ByteArray := prog_12_method_5_code
def yX10_isNoise : MethodName := ⟨RX10, "isNoise", "(I)Z"⟩
abbrev cX10_isPlace : ByteArray := prog_12_method_6_code
def yX10_isPlace : MethodName := ⟨RX10, "isPlace", "(I)Z"⟩
abbrev cX10_isMinute : ByteArray := prog_12_method_7_code
def yX10_isMinute : MethodName := ⟨RX10, "isMinute", "(I)Z"⟩
abbrev cX10_day : ByteArray := prog_12_method_8_code
def yX10_day : MethodName := ⟨RX10, "day", "(IJ)I"⟩
abbrev cX10_feed : ByteArray := prog_12_method_9_code
def yX10_feed : MethodName := ⟨RX10, "feed", "(JI)I"⟩
abbrev cX10_here : ByteArray := prog_12_method_10_code
def yX10_here : MethodName := ⟨RX10, "here", "()I"⟩
abbrev cX10_must : ByteArray := prog_12_method_11_code
def yX10_must : MethodName := ⟨RX10, "must", "(I)V"⟩
abbrev cX10_spells : ByteArray := prog_12_method_12_code
def yX10_spells : MethodName := ⟨RX10, "spells", "(Ljava/lang/String;)V"⟩
abbrev cX10_figures : ByteArray := prog_12_method_13_code
def yX10_figures : MethodName := ⟨RX10, "figures", "()I"⟩
abbrev cX10_among : ByteArray := prog_12_method_14_code
def yX10_among : MethodName := ⟨RX10, "among", "(Ljava/lang/String;)I"⟩
abbrev cX10_emits : ByteArray := prog_12_method_15_code
def yX10_emits : MethodName := ⟨RX10, "emits", "(I)V"⟩
abbrev cX10_factor : ByteArray := prog_12_method_16_code
def yX10_factor : MethodName := ⟨RX10, "factor", "()V"⟩
abbrev cX10_every : ByteArray := prog_12_method_17_code
def yX10_every : MethodName := ⟨RX10, "every", "()V"⟩
abbrev cX10_some : ByteArray := prog_12_method_18_code
def yX10_some : MethodName := ⟨RX10, "some", "()V"⟩
abbrev cX10_much : ByteArray := prog_12_method_19_code
def yX10_much : MethodName := ⟨RX10, "much", "(ILjava/lang/String;)V"⟩
abbrev cX10_tellsHere : ByteArray := prog_12_method_20_code
def yX10_tellsHere : MethodName := ⟨RX10, "tellsHere", "(ILjava/lang/String;)V"⟩
abbrev cX10_clauseOfH : ByteArray := prog_12_method_21_code
def yX10_clauseOfH : MethodName := ⟨RX10, "clauseOfH", "()V"⟩
abbrev cX10_clauseHere : ByteArray := prog_12_method_22_code
def yX10_clauseHere : MethodName := ⟨RX10, "clauseHere", "()V"⟩
abbrev cX10_house : ByteArray := prog_12_method_23_code
def yX10_house : MethodName := ⟨RX10, "house", "()I"⟩
abbrev cX10_tellsOf : ByteArray := prog_12_method_24_code
def yX10_tellsOf : MethodName := ⟨RX10, "tellsOf", "(II)I"⟩
abbrev cX10_told : ByteArray := prog_12_method_25_code
def yX10_told : MethodName := ⟨RX10, "told", "(I)I"⟩
abbrev cX10_looksAt : ByteArray := prog_12_method_26_code
def yX10_looksAt : MethodName := ⟨RX10, "looksAt", "(II)V"⟩
abbrev cX10_isOn : ByteArray := prog_12_method_27_code
def yX10_isOn : MethodName := ⟨RX10, "isOn", "(II)Z"⟩
abbrev cX10_warms : ByteArray := prog_12_method_28_code
def yX10_warms : MethodName := ⟨RX10, "warms", "()V"⟩
abbrev cX10_lengthOf : ByteArray := prog_12_method_29_code
def yX10_lengthOf : MethodName := ⟨RX10, "lengthOf", "(II)I"⟩
abbrev cX10_ticks : ByteArray := prog_12_method_30_code
def yX10_ticks : MethodName := ⟨RX10, "ticks", "(I)V"⟩
abbrev cX10_strikesBy : ByteArray := prog_12_method_31_code
def yX10_strikesBy : MethodName := ⟨RX10, "strikesBy", "(I)V"⟩
abbrev cX10_hums : ByteArray := prog_12_method_32_code
def yX10_hums : MethodName := ⟨RX10, "hums", "(IZ)V"⟩
abbrev cX10_plainly : ByteArray := prog_12_method_33_code
def yX10_plainly : MethodName := ⟨RX10, "plainly", "(I)V"⟩
abbrev cX10_goesOf : ByteArray := prog_12_method_34_code
def yX10_goesOf : MethodName := ⟨RX10, "goesOf", "(I)V"⟩
abbrev cX10_goes : ByteArray := prog_12_method_35_code
def yX10_goes : MethodName := ⟨RX10, "goes", "()V"⟩
abbrev cX10_warmth : ByteArray := prog_12_method_36_code
def yX10_warmth : MethodName := ⟨RX10, "warmth", "(I)I"⟩
abbrev cX10_noise : ByteArray := prog_12_method_37_code
def yX10_noise : MethodName := ⟨RX10, "noise", "(IIII)I"⟩
abbrev cX10_of : ByteArray := prog_12_method_38_code
def yX10_of : MethodName := ⟨RX10, "of", "(II)I"⟩
abbrev cX10_still : ByteArray := prog_12_method_39_code
def yX10_still : MethodName := ⟨RX10, "still", "(IZ)I"⟩
abbrev cX10_isStill : ByteArray := prog_12_method_40_code
def yX10_isStill : MethodName := ⟨RX10, "isStill", "(I)Z"⟩
abbrev cX10_knocks : ByteArray := prog_12_method_41_code
def yX10_knocks : MethodName := ⟨RX10, "knocks", "(III)I"⟩
abbrev cX10_isStruck : ByteArray := prog_12_method_42_code
def yX10_isStruck : MethodName := ⟨RX10, "isStruck", "(I)Z"⟩
abbrev cX10_loudOf : ByteArray := prog_12_method_43_code
def yX10_loudOf : MethodName := ⟨RX10, "loudOf", "(III)I"⟩
abbrev cX10_loud : ByteArray := prog_12_method_44_code
def yX10_loud : MethodName := ⟨RX10, "loud", "(III)I"⟩
abbrev cX10_moving : ByteArray := prog_12_method_45_code
def yX10_moving : MethodName := ⟨RX10, "moving", "()I"⟩
abbrev cX10_heardOf : ByteArray := prog_12_method_46_code
def yX10_heardOf : MethodName := ⟨RX10, "heardOf", "(III)I"⟩
abbrev cX10_heardAll : ByteArray := prog_12_method_47_code
def yX10_heardAll : MethodName := ⟨RX10, "heardAll", "(II)I"⟩
abbrev cX10_heard : ByteArray := prog_12_method_48_code
def yX10_heard : MethodName := ⟨RX10, "heard", "(II)I"⟩
abbrev cX10_seems : ByteArray := prog_12_method_49_code
def yX10_seems : MethodName := ⟨RX10, "seems", "(I)I"⟩
abbrev cX10_note : ByteArray := prog_12_method_50_code
def yX10_note : MethodName := ⟨RX10, "note", "(III)I"⟩
abbrev cX10_clear : ByteArray := prog_12_method_51_code
def yX10_clear : MethodName := ⟨RX10, "clear", "()I"⟩
abbrev cX10_fitsOf : ByteArray := prog_12_method_52_code
def yX10_fitsOf : MethodName := ⟨RX10, "fitsOf", "(I)I"⟩
abbrev cX10_count1 : ByteArray := prog_12_method_53_code
def yX10_count1 : MethodName := ⟨RX10, "count1", "(I)I"⟩
abbrev cX10_fits : ByteArray := prog_12_method_54_code
def yX10_fits : MethodName := ⟨RX10, "fits", "(I)I"⟩
abbrev cX10_divisor : ByteArray := prog_12_method_55_code
def yX10_divisor : MethodName := ⟨RX10, "divisor", "(II)I"⟩
abbrev cX10_odds : ByteArray := prog_12_method_56_code
def yX10_odds : MethodName := ⟨RX10, "odds", "(II)I"⟩
abbrev cX10_mostFitting : ByteArray := prog_12_method_57_code
def yX10_mostFitting : MethodName := ⟨RX10, "mostFitting", "()I"⟩
abbrev cX10_allFitting : ByteArray := prog_12_method_58_code
def yX10_allFitting : MethodName := ⟨RX10, "allFitting", "()I"⟩
abbrev cX10_harmOf : ByteArray := prog_12_method_59_code
def yX10_harmOf : MethodName := ⟨RX10, "harmOf", "(I)I"⟩
abbrev cX10_worst : ByteArray := prog_12_method_60_code
def yX10_worst : MethodName := ⟨RX10, "worst", "()I"⟩
abbrev cX10_which : ByteArray := prog_12_method_61_code
def yX10_which : MethodName := ⟨RX10, "which", "(I)I"⟩
abbrev cX10_next : ByteArray := prog_12_method_62_code
def yX10_next : MethodName := ⟨RX10, "next", "()I"⟩
abbrev cX10_least : ByteArray := prog_12_method_63_code
def yX10_least : MethodName := ⟨RX10, "least", "(II)I"⟩
abbrev cX10_eased : ByteArray := prog_12_method_64_code
def yX10_eased : MethodName := ⟨RX10, "eased", "(II)I"⟩
abbrev cX10_parted : ByteArray := prog_12_method_65_code
def yX10_parted : MethodName := ⟨RX10, "parted", "(II)J"⟩
abbrev cX10_quiet : ByteArray := prog_12_method_66_code
def yX10_quiet : MethodName := ⟨RX10, "quiet", "(I)I"⟩
abbrev cX10_moved : ByteArray := prog_12_method_67_code
def yX10_moved : MethodName := ⟨RX10, "moved", "(II)I"⟩
abbrev cX10_older : ByteArray := prog_12_method_68_code
def yX10_older : MethodName := ⟨RX10, "older", "()I"⟩
abbrev cX10_harm : ByteArray := prog_12_method_69_code
def yX10_harm : MethodName := ⟨RX10, "harm", "(I)I"⟩
abbrev cX10_runs : ByteArray := prog_12_method_70_code
def yX10_runs : MethodName := ⟨RX10, "runs", "(I)V"⟩
abbrev cX10_isUnder : ByteArray := prog_12_method_71_code
def yX10_isUnder : MethodName := ⟨RX10, "isUnder", "(II)Z"⟩
abbrev cX10_plainGrows : ByteArray := prog_12_method_72_code
def yX10_plainGrows : MethodName := ⟨RX10, "plainGrows", "(I)I"⟩
abbrev cX10_growsActs : ByteArray := prog_12_method_73_code
def yX10_growsActs : MethodName := ⟨RX10, "growsActs", "(I)I"⟩
abbrev cX10_plainStrikes : ByteArray := prog_12_method_74_code
def yX10_plainStrikes : MethodName := ⟨RX10, "plainStrikes", "(I)I"⟩
abbrev cX10_strikesActs : ByteArray := prog_12_method_75_code
def yX10_strikesActs : MethodName := ⟨RX10, "strikesActs", "(I)I"⟩
abbrev cX10_plainTells : ByteArray := prog_12_method_76_code
def yX10_plainTells : MethodName := ⟨RX10, "plainTells", "(I)I"⟩
abbrev cX10_tellsActs : ByteArray := prog_12_method_77_code
def yX10_tellsActs : MethodName := ⟨RX10, "tellsActs", "(I)I"⟩
abbrev cX10_act : ByteArray := prog_12_method_78_code
def yX10_act : MethodName := ⟨RX10, "act", "(III)I"⟩
abbrev cX10_trace : ByteArray := prog_12_method_79_code
def yX10_trace : MethodName := ⟨RX10, "trace", "(I)I"⟩
abbrev cX10_as : ByteArray := prog_12_method_80_code
def yX10_as : MethodName := ⟨RX10, "as", "(II)I"⟩
abbrev cX10_image : ByteArray := prog_12_method_81_code
def yX10_image : MethodName := ⟨RX10, "image", "()I"⟩
abbrev cX10_undo : ByteArray := prog_12_method_82_code
def yX10_undo : MethodName := ⟨RX10, "undo", "()I"⟩
abbrev cX10_count : ByteArray := prog_12_method_83_code
def yX10_count : MethodName := ⟨RX10, "count", "(I)I"⟩
def RJ6 : String := "java/lang/Integer"
def TJ6 : u_T := fun k => match k with
  | _ => ("", "", "", false)
def tyJ6 : Nat → FieldType := fun k => match k with
  | _ => .int
abbrev wsJ60 : List Cond := u_ws RJ6 TJ6 0
theorem nmJ6 : ∀ a, a < 0 → ∀ b, b < 0 → a ≠ b → (TJ6 a).2.1 ≠ (TJ6 b).2.1 := by decide +kernel
theorem tyJ6_ok : ∀ k, k < 0 → parseFieldDescriptor (TJ6 k).2.2.1 = some (tyJ6 k) := by decide +kernel
abbrev cJ6_bitCount_0f7a4 : ByteArray := prog_13_method_49_code
def yJ6_bitCount_0f7a4 : MethodName := ⟨RJ6, "bitCount", "(I)I"⟩
def RJ13 : String := "java/lang/Long"
def TJ13 : u_T := fun k => match k with
  | _ => ("", "", "", false)
def tyJ13 : Nat → FieldType := fun k => match k with
  | _ => .int
abbrev wsJ130 : List Cond := u_ws RJ13 TJ13 0
theorem nmJ13 : ∀ a, a < 0 → ∀ b, b < 0 → a ≠ b → (TJ13 a).2.1 ≠ (TJ13 b).2.1 := by decide +kernel
theorem tyJ13_ok : ∀ k, k < 0 → parseFieldDescriptor (TJ13 k).2.2.1 = some (tyJ13 k) := by decide +kernel
abbrev cJ13_bitCount_95d88 : ByteArray := prog_14_method_50_code
def yJ13_bitCount_95d88 : MethodName := ⟨RJ13, "bitCount", "(J)I"⟩
def RJ9 : String := "java/lang/Math"
def TJ9 : u_T := fun k => match k with
  | _ => ("", "", "", false)
def tyJ9 : Nat → FieldType := fun k => match k with
  | _ => .int
abbrev wsJ90 : List Cond := u_ws RJ9 TJ9 0
theorem nmJ9 : ∀ a, a < 0 → ∀ b, b < 0 → a ≠ b → (TJ9 a).2.1 ≠ (TJ9 b).2.1 := by decide +kernel
theorem tyJ9_ok : ∀ k, k < 0 → parseFieldDescriptor (TJ9 k).2.2.1 = some (tyJ9 k) := by decide +kernel
abbrev cJ9_abs_0f7a4 : ByteArray := prog_15_method_59_code
def yJ9_abs_0f7a4 : MethodName := ⟨RJ9, "abs", "(I)I"⟩
abbrev cJ9_max_7cf53 : ByteArray := prog_15_method_65_code
def yJ9_max_7cf53 : MethodName := ⟨RJ9, "max", "(II)I"⟩
abbrev cJ9_min_7cf53 : ByteArray := prog_15_method_69_code
def yJ9_min_7cf53 : MethodName := ⟨RJ9, "min", "(II)I"⟩
def RJ0 : String := "java/lang/String"
def TJ0 : u_T := fun k => match k with
  | _ => ("", "", "", false)
def tyJ0 : Nat → FieldType := fun k => match k with
  | _ => .int
abbrev wsJ00 : List Cond := u_ws RJ0 TJ0 0
theorem nmJ0 : ∀ a, a < 0 → ∀ b, b < 0 → a ≠ b → (TJ0 a).2.1 ≠ (TJ0 b).2.1 := by decide +kernel
theorem tyJ0_ok : ∀ k, k < 0 → parseFieldDescriptor (TJ0 k).2.2.1 = some (tyJ0 k) := by decide +kernel
abbrev cJ0_length_8abf5 : ByteArray := prog_16_method_54_code
def yJ0_length_8abf5 : MethodName := ⟨RJ0, "length", "()I"⟩
abbrev cJ0_charAt_5068e : ByteArray := prog_16_method_56_code
def yJ0_charAt_5068e : MethodName := ⟨RJ0, "charAt", "(I)C"⟩
abbrev cJ0_coder_7d493 : ByteArray := prog_16_method_152_code
def yJ0_coder_7d493 : MethodName := ⟨RJ0, "coder", "()B"⟩
abbrev cJ0_isLatin1_aae02 : ByteArray := prog_16_method_154_code
def yJ0_isLatin1_aae02 : MethodName := ⟨RJ0, "isLatin1", "()Z"⟩
abbrev cJ0_checkIndex_df160 : ByteArray := prog_16_method_155_code
def yJ0_checkIndex_df160 : MethodName := ⟨RJ0, "checkIndex", "(II)V"⟩
def RJ1 : String := "java/lang/StringLatin1"
def TJ1 : u_T := fun k => match k with
  | _ => ("", "", "", false)
def tyJ1 : Nat → FieldType := fun k => match k with
  | _ => .int
abbrev wsJ10 : List Cond := u_ws RJ1 TJ1 0
theorem nmJ1 : ∀ a, a < 0 → ∀ b, b < 0 → a ≠ b → (TJ1 a).2.1 ≠ (TJ1 b).2.1 := by decide +kernel
theorem tyJ1_ok : ∀ k, k < 0 → parseFieldDescriptor (TJ1 k).2.2.1 = some (tyJ1 k) := by decide +kernel
abbrev cJ1_charAt_3b067 : ByteArray := prog_17_method_2_code
def yJ1_charAt_3b067 : MethodName := ⟨RJ1, "charAt", "([BI)C"⟩
def RJ2 : String := "java/lang/StringUTF16"
def TJ2 : u_T := fun k => match k with
  | _ => ("", "", "", false)
def tyJ2 : Nat → FieldType := fun k => match k with
  | _ => .int
abbrev wsJ20 : List Cond := u_ws RJ2 TJ2 0
theorem nmJ2 : ∀ a, a < 0 → ∀ b, b < 0 → a ≠ b → (TJ2 a).2.1 ≠ (TJ2 b).2.1 := by decide +kernel
theorem tyJ2_ok : ∀ k, k < 0 → parseFieldDescriptor (TJ2 k).2.2.1 = some (tyJ2 k) := by decide +kernel
abbrev cJ2_getChar_3b067 : ByteArray := prog_18_method_5_code
def yJ2_getChar_3b067 : MethodName := ⟨RJ2, "getChar", "([BI)C"⟩
abbrev cJ2_length_9d52b : ByteArray := prog_18_method_6_code
def yJ2_length_9d52b : MethodName := ⟨RJ2, "length", "([B)I"⟩
abbrev cJ2_charAt_3b067 : ByteArray := prog_18_method_83_code
def yJ2_charAt_3b067 : MethodName := ⟨RJ2, "charAt", "([BI)C"⟩
abbrev cJ2_checkIndex_2214a : ByteArray := prog_18_method_91_code
def yJ2_checkIndex_2214a : MethodName := ⟨RJ2, "checkIndex", "(I[B)V"⟩
def RJ10 : String := "java/lang/System"
def TJ10 : u_T := fun k => match k with
  | _ => ("", "", "", false)
def tyJ10 : Nat → FieldType := fun k => match k with
  | _ => .int
abbrev wsJ100 : List Cond := u_ws RJ10 TJ10 0
theorem nmJ10 : ∀ a, a < 0 → ∀ b, b < 0 → a ≠ b → (TJ10 a).2.1 ≠ (TJ10 b).2.1 := by decide +kernel
theorem tyJ10_ok : ∀ k, k < 0 → parseFieldDescriptor (TJ10 k).2.2.1 = some (tyJ10 k) := by decide +kernel
def RJ3 : String := "jdk/internal/util/Preconditions"
def TJ3 : u_T := fun k => match k with
  | _ => ("", "", "", false)
def tyJ3 : Nat → FieldType := fun k => match k with
  | _ => .int
abbrev wsJ30 : List Cond := u_ws RJ3 TJ3 0
theorem nmJ3 : ∀ a, a < 0 → ∀ b, b < 0 → a ≠ b → (TJ3 a).2.1 ≠ (TJ3 b).2.1 := by decide +kernel
theorem tyJ3_ok : ∀ k, k < 0 → parseFieldDescriptor (TJ3 k).2.2.1 = some (tyJ3 k) := by decide +kernel
abbrev cJ3_checkIndex_8e157 : ByteArray := prog_20_method_11_code
def yJ3_checkIndex_8e157 : MethodName := ⟨RJ3, "checkIndex", "(IILjava/util/function/BiFunction;)I"⟩
def RL : String := "KnockPipesLaw"
abbrev cL_law : ByteArray := code
def yL_law : MethodName := ⟨RL, "law", "([I)Z"⟩
abbrev vwCl : List vw_C := [(RX0, TX0, 5), (RX1, TX1, 6), (RX2, TX2, 7), (RX3, TX3, 6), (RX4, TX4, 4), (RX5, TX5, 3), (RX6, TX6, 6), (RX7, TX7, 2), (RX9, TX9, 8), (RX10, TX10, 26)]
