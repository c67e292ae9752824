section
-- ===== PART A: goes FIRST, ahead of the names: the tables' words, and 'selects' of the private methods out of them =====
/-- a private method of a class that the tables say can be made, by its rows of tables_1 -/
def lw_okq (q : MethodName × Nat) : Prop := (q.1.cls ≠ "java/lang/invoke/MethodHandle" ∧ q.1.cls ≠ "java/lang/invoke/VarHandle") ∧ Cond.instantiable q.1.cls q.2 ∈ tables_1 ∧ Cond.privateMethod q.1 ∈ tables_1 ∧ Cond.instanceMethod q.1 ∈ tables_1
theorem lw_p0 : lw_okq (⟨"SwanDeeds", "found", "(I)I"⟩, 9) := ⟨⟨by decide +kernel, by decide +kernel⟩, List.mem_of_getElem? (i := 12) (by decide +kernel), List.mem_of_getElem? (i := 216) (by decide +kernel), List.mem_of_getElem? (i := 217) (by decide +kernel)⟩
theorem lw_p1 : lw_okq (⟨"SwanDeeds$Tape", "readLaw", "(LSwanDeeds$River;)Z"⟩, 8) := ⟨⟨by decide +kernel, by decide +kernel⟩, List.mem_of_getElem? (i := 39) (by decide +kernel), List.mem_of_getElem? (i := 287) (by decide +kernel), List.mem_of_getElem? (i := 288) (by decide +kernel)⟩
theorem lw_p2 : lw_okq (⟨"SwanDeeds$Tape", "readSingle", "(I)Z"⟩, 8) := ⟨⟨by decide +kernel, by decide +kernel⟩, List.mem_of_getElem? (i := 39) (by decide +kernel), List.mem_of_getElem? (i := 291) (by decide +kernel), List.mem_of_getElem? (i := 292) (by decide +kernel)⟩
theorem lw_p3 : lw_okq (⟨"SwanDeeds$Tape", "scan", "()V"⟩, 8) := ⟨⟨by decide +kernel, by decide +kernel⟩, List.mem_of_getElem? (i := 39) (by decide +kernel), List.mem_of_getElem? (i := 295) (by decide +kernel), List.mem_of_getElem? (i := 296) (by decide +kernel)⟩
theorem lw_p4 : lw_okq (⟨"SwanDeeds$Tape", "scanFigures", "()V"⟩, 8) := ⟨⟨by decide +kernel, by decide +kernel⟩, List.mem_of_getElem? (i := 39) (by decide +kernel), List.mem_of_getElem? (i := 302) (by decide +kernel), List.mem_of_getElem? (i := 303) (by decide +kernel)⟩
theorem lw_p5 : lw_okq (⟨"SwanDeeds$Tape", "refuse", "(I)Z"⟩, 8) := ⟨⟨by decide +kernel, by decide +kernel⟩, List.mem_of_getElem? (i := 39) (by decide +kernel), List.mem_of_getElem? (i := 306) (by decide +kernel), List.mem_of_getElem? (i := 307) (by decide +kernel)⟩
theorem lw_p6 : lw_okq (⟨"SwanDeeds$Tape", "readNumber", "(II)I"⟩, 8) := ⟨⟨by decide +kernel, by decide +kernel⟩, List.mem_of_getElem? (i := 39) (by decide +kernel), List.mem_of_getElem? (i := 310) (by decide +kernel), List.mem_of_getElem? (i := 311) (by decide +kernel)⟩
theorem lw_p7 : lw_okq (⟨"SwanDeeds$Tape", "readSwan", "(LSwanDeeds$River;I)Z"⟩, 8) := ⟨⟨by decide +kernel, by decide +kernel⟩, List.mem_of_getElem? (i := 39) (by decide +kernel), List.mem_of_getElem? (i := 319) (by decide +kernel), List.mem_of_getElem? (i := 320) (by decide +kernel)⟩
theorem lw_p8 : lw_okq (⟨"SwanDeeds$Tape", "readSort", "()I"⟩, 8) := ⟨⟨by decide +kernel, by decide +kernel⟩, List.mem_of_getElem? (i := 39) (by decide +kernel), List.mem_of_getElem? (i := 323) (by decide +kernel), List.mem_of_getElem? (i := 324) (by decide +kernel)⟩
theorem lw_p9 : lw_okq (⟨"SwanDeeds", "hasRiver", "()Z"⟩, 9) := ⟨⟨by decide +kernel, by decide +kernel⟩, List.mem_of_getElem? (i := 12) (by decide +kernel), List.mem_of_getElem? (i := 357) (by decide +kernel), List.mem_of_getElem? (i := 358) (by decide +kernel)⟩
theorem lw_p10 : lw_okq (⟨"SwanDeeds$River", "towardsBread", "(III)I"⟩, 11) := ⟨⟨by decide +kernel, by decide +kernel⟩, List.mem_of_getElem? (i := 80) (by decide +kernel), List.mem_of_getElem? (i := 380) (by decide +kernel), List.mem_of_getElem? (i := 381) (by decide +kernel)⟩
theorem lw_p11 : lw_okq (⟨"SwanDeeds$River", "crumbsSeen", "(II)I"⟩, 11) := ⟨⟨by decide +kernel, by decide +kernel⟩, List.mem_of_getElem? (i := 80) (by decide +kernel), List.mem_of_getElem? (i := 384) (by decide +kernel), List.mem_of_getElem? (i := 385) (by decide +kernel)⟩
theorem lw_p12 : lw_okq (⟨"SwanDeeds$River", "lawnsOfOtherCobs", "(I)I"⟩, 11) := ⟨⟨by decide +kernel, by decide +kernel⟩, List.mem_of_getElem? (i := 80) (by decide +kernel), List.mem_of_getElem? (i := 391) (by decide +kernel), List.mem_of_getElem? (i := 392) (by decide +kernel)⟩
theorem lw_p13 : lw_okq (⟨"SwanDeeds$River", "sendBeatenDown", "()V"⟩, 11) := ⟨⟨by decide +kernel, by decide +kernel⟩, List.mem_of_getElem? (i := 80) (by decide +kernel), List.mem_of_getElem? (i := 395) (by decide +kernel), List.mem_of_getElem? (i := 396) (by decide +kernel)⟩
theorem lw_p14 : lw_okq (⟨"SwanDeeds$River", "isBeaten", "(I)Z"⟩, 11) := ⟨⟨by decide +kernel, by decide +kernel⟩, List.mem_of_getElem? (i := 80) (by decide +kernel), List.mem_of_getElem? (i := 399) (by decide +kernel), List.mem_of_getElem? (i := 400) (by decide +kernel)⟩
theorem lw_p15 : lw_okq (⟨"SwanDeeds", "isLawn", "(I)Z"⟩, 9) := ⟨⟨by decide +kernel, by decide +kernel⟩, List.mem_of_getElem? (i := 12) (by decide +kernel), List.mem_of_getElem? (i := 421) (by decide +kernel), List.mem_of_getElem? (i := 422) (by decide +kernel)⟩
def lw_privs_1 : List (MethodName × Nat) := [(⟨"SwanDeeds", "found", "(I)I"⟩, 9), (⟨"SwanDeeds$Tape", "readLaw", "(LSwanDeeds$River;)Z"⟩, 8), (⟨"SwanDeeds$Tape", "readSingle", "(I)Z"⟩, 8), (⟨"SwanDeeds$Tape", "scan", "()V"⟩, 8), (⟨"SwanDeeds$Tape", "scanFigures", "()V"⟩, 8), (⟨"SwanDeeds$Tape", "refuse", "(I)Z"⟩, 8), (⟨"SwanDeeds$Tape", "readNumber", "(II)I"⟩, 8), (⟨"SwanDeeds$Tape", "readSwan", "(LSwanDeeds$River;I)Z"⟩, 8), (⟨"SwanDeeds$Tape", "readSort", "()I"⟩, 8), (⟨"SwanDeeds", "hasRiver", "()Z"⟩, 9), (⟨"SwanDeeds$River", "towardsBread", "(III)I"⟩, 11), (⟨"SwanDeeds$River", "crumbsSeen", "(II)I"⟩, 11), (⟨"SwanDeeds$River", "lawnsOfOtherCobs", "(I)I"⟩, 11), (⟨"SwanDeeds$River", "sendBeatenDown", "()V"⟩, 11), (⟨"SwanDeeds$River", "isBeaten", "(I)Z"⟩, 11), (⟨"SwanDeeds", "isLawn", "(I)Z"⟩, 9)]
theorem lw_r1 : ∀ q ∈ lw_privs_1, lw_okq q := List.forall_mem_cons.mpr ⟨lw_p0, List.forall_mem_cons.mpr ⟨lw_p1, List.forall_mem_cons.mpr ⟨lw_p2, List.forall_mem_cons.mpr ⟨lw_p3, List.forall_mem_cons.mpr ⟨lw_p4, List.forall_mem_cons.mpr ⟨lw_p5, List.forall_mem_cons.mpr ⟨lw_p6, List.forall_mem_cons.mpr ⟨lw_p7, List.forall_mem_cons.mpr ⟨lw_p8, List.forall_mem_cons.mpr ⟨lw_p9, List.forall_mem_cons.mpr ⟨lw_p10, List.forall_mem_cons.mpr ⟨lw_p11, List.forall_mem_cons.mpr ⟨lw_p12, List.forall_mem_cons.mpr ⟨lw_p13, List.forall_mem_cons.mpr ⟨lw_p14, List.forall_mem_cons.mpr ⟨lw_p15, fun _ h => absurd h List.not_mem_nil⟩⟩⟩⟩⟩⟩⟩⟩⟩⟩⟩⟩⟩⟩⟩⟩
theorem lw_p16 : lw_okq (⟨"SwanDeeds", "isSwan", "(I)Z"⟩, 9) := ⟨⟨by decide +kernel, by decide +kernel⟩, List.mem_of_getElem? (i := 12) (by decide +kernel), List.mem_of_getElem? (i := 442) (by decide +kernel), List.mem_of_getElem? (i := 443) (by decide +kernel)⟩
theorem lw_p17 : lw_okq (⟨"SwanDeeds", "foretell", "(I)V"⟩, 9) := ⟨⟨by decide +kernel, by decide +kernel⟩, List.mem_of_getElem? (i := 12) (by decide +kernel), List.mem_of_getElem? (i := 472) (by decide +kernel), List.mem_of_getElem? (i := 473) (by decide +kernel)⟩
theorem lw_p18 : lw_okq (⟨"SwanDeeds", "fewest", "(ZIII)I"⟩, 9) := ⟨⟨by decide +kernel, by decide +kernel⟩, List.mem_of_getElem? (i := 12) (by decide +kernel), List.mem_of_getElem? (i := 511) (by decide +kernel), List.mem_of_getElem? (i := 512) (by decide +kernel)⟩
theorem lw_p19 : lw_okq (⟨"SwanDeeds", "comesByWeirs", "(IIII)Z"⟩, 9) := ⟨⟨by decide +kernel, by decide +kernel⟩, List.mem_of_getElem? (i := 12) (by decide +kernel), List.mem_of_getElem? (i := 516) (by decide +kernel), List.mem_of_getElem? (i := 517) (by decide +kernel)⟩
theorem lw_p20 : lw_okq (⟨"SwanDeeds", "comesByCrusts", "(IIII)Z"⟩, 9) := ⟨⟨by decide +kernel, by decide +kernel⟩, List.mem_of_getElem? (i := 12) (by decide +kernel), List.mem_of_getElem? (i := 520) (by decide +kernel), List.mem_of_getElem? (i := 521) (by decide +kernel)⟩
theorem lw_p21 : lw_okq (⟨"SwanDeeds", "suppose", "(III)V"⟩, 9) := ⟨⟨by decide +kernel, by decide +kernel⟩, List.mem_of_getElem? (i := 12) (by decide +kernel), List.mem_of_getElem? (i := 551) (by decide +kernel), List.mem_of_getElem? (i := 552) (by decide +kernel)⟩
theorem lw_p22 : lw_okq (⟨"SwanDeeds", "trialFits", "(IIII)Z"⟩, 9) := ⟨⟨by decide +kernel, by decide +kernel⟩, List.mem_of_getElem? (i := 12) (by decide +kernel), List.mem_of_getElem? (i := 555) (by decide +kernel), List.mem_of_getElem? (i := 556) (by decide +kernel)⟩
theorem lw_p23 : lw_okq (⟨"SwanDeeds", "comesBySinking", "(III)Z"⟩, 9) := ⟨⟨by decide +kernel, by decide +kernel⟩, List.mem_of_getElem? (i := 12) (by decide +kernel), List.mem_of_getElem? (i := 576) (by decide +kernel), List.mem_of_getElem? (i := 577) (by decide +kernel)⟩
theorem lw_p24 : lw_okq (⟨"SwanDeeds", "casesOf", "(II)J"⟩, 9) := ⟨⟨by decide +kernel, by decide +kernel⟩, List.mem_of_getElem? (i := 12) (by decide +kernel), List.mem_of_getElem? (i := 584) (by decide +kernel), List.mem_of_getElem? (i := 585) (by decide +kernel)⟩
theorem lw_p25 : lw_okq (⟨"SwanDeeds$Asks", "begin", "(I)V"⟩, 6) := ⟨⟨by decide +kernel, by decide +kernel⟩, List.mem_of_getElem? (i := 151) (by decide +kernel), List.mem_of_getElem? (i := 643) (by decide +kernel), List.mem_of_getElem? (i := 644) (by decide +kernel)⟩
theorem lw_p26 : lw_okq (⟨"SwanDeeds$Asks", "sizeOfAny", "()I"⟩, 6) := ⟨⟨by decide +kernel, by decide +kernel⟩, List.mem_of_getElem? (i := 151) (by decide +kernel), List.mem_of_getElem? (i := 651) (by decide +kernel), List.mem_of_getElem? (i := 652) (by decide +kernel)⟩
theorem lw_p27 : lw_okq (⟨"SwanDeeds$Asks", "markOfAny", "()I"⟩, 6) := ⟨⟨by decide +kernel, by decide +kernel⟩, List.mem_of_getElem? (i := 151) (by decide +kernel), List.mem_of_getElem? (i := 663) (by decide +kernel), List.mem_of_getElem? (i := 664) (by decide +kernel)⟩
theorem lw_p28 : lw_okq (⟨"SwanDeedsModel", "found", "(I)I"⟩, 19) := ⟨⟨by decide +kernel, by decide +kernel⟩, List.mem_of_getElem? (i := 709) (by decide +kernel), List.mem_of_getElem? (i := 787) (by decide +kernel), List.mem_of_getElem? (i := 788) (by decide +kernel)⟩
theorem lw_p29 : lw_okq (⟨"SwanDeedsModel", "good", "(I)I"⟩, 19) := ⟨⟨by decide +kernel, by decide +kernel⟩, List.mem_of_getElem? (i := 709) (by decide +kernel), List.mem_of_getElem? (i := 792) (by decide +kernel), List.mem_of_getElem? (i := 793) (by decide +kernel)⟩
theorem lw_p30 : lw_okq (⟨"SwanDeedsModel", "takesLaw", "()Z"⟩, 19) := ⟨⟨by decide +kernel, by decide +kernel⟩, List.mem_of_getElem? (i := 709) (by decide +kernel), List.mem_of_getElem? (i := 821) (by decide +kernel), List.mem_of_getElem? (i := 822) (by decide +kernel)⟩
theorem lw_p31 : lw_okq (⟨"SwanDeedsModel", "takes", "(I)Z"⟩, 19) := ⟨⟨by decide +kernel, by decide +kernel⟩, List.mem_of_getElem? (i := 709) (by decide +kernel), List.mem_of_getElem? (i := 825) (by decide +kernel), List.mem_of_getElem? (i := 826) (by decide +kernel)⟩
def lw_privs_2 : List (MethodName × Nat) := [(⟨"SwanDeeds", "isSwan", "(I)Z"⟩, 9), (⟨"SwanDeeds", "foretell", "(I)V"⟩, 9), (⟨"SwanDeeds", "fewest", "(ZIII)I"⟩, 9), (⟨"SwanDeeds", "comesByWeirs", "(IIII)Z"⟩, 9), (⟨"SwanDeeds", "comesByCrusts", "(IIII)Z"⟩, 9), (⟨"SwanDeeds", "suppose", "(III)V"⟩, 9), (⟨"SwanDeeds", "trialFits", "(IIII)Z"⟩, 9), (⟨"SwanDeeds", "comesBySinking", "(III)Z"⟩, 9), (⟨"SwanDeeds", "casesOf", "(II)J"⟩, 9), (⟨"SwanDeeds$Asks", "begin", "(I)V"⟩, 6), (⟨"SwanDeeds$Asks", "sizeOfAny", "()I"⟩, 6), (⟨"SwanDeeds$Asks", "markOfAny", "()I"⟩, 6), (⟨"SwanDeedsModel", "found", "(I)I"⟩, 19), (⟨"SwanDeedsModel", "good", "(I)I"⟩, 19), (⟨"SwanDeedsModel", "takesLaw", "()Z"⟩, 19), (⟨"SwanDeedsModel", "takes", "(I)Z"⟩, 19)]
theorem lw_r2 : ∀ q ∈ lw_privs_2, lw_okq q := List.forall_mem_cons.mpr ⟨lw_p16, List.forall_mem_cons.mpr ⟨lw_p17, List.forall_mem_cons.mpr ⟨lw_p18, List.forall_mem_cons.mpr ⟨lw_p19, List.forall_mem_cons.mpr ⟨lw_p20, List.forall_mem_cons.mpr ⟨lw_p21, List.forall_mem_cons.mpr ⟨lw_p22, List.forall_mem_cons.mpr ⟨lw_p23, List.forall_mem_cons.mpr ⟨lw_p24, List.forall_mem_cons.mpr ⟨lw_p25, List.forall_mem_cons.mpr ⟨lw_p26, List.forall_mem_cons.mpr ⟨lw_p27, List.forall_mem_cons.mpr ⟨lw_p28, List.forall_mem_cons.mpr ⟨lw_p29, List.forall_mem_cons.mpr ⟨lw_p30, List.forall_mem_cons.mpr ⟨lw_p31, fun _ h => absurd h List.not_mem_nil⟩⟩⟩⟩⟩⟩⟩⟩⟩⟩⟩⟩⟩⟩⟩⟩
theorem lw_p32 : lw_okq (⟨"SwanDeedsModel", "byteAt", "(I)I"⟩, 19) := ⟨⟨by decide +kernel, by decide +kernel⟩, List.mem_of_getElem? (i := 709) (by decide +kernel), List.mem_of_getElem? (i := 829) (by decide +kernel), List.mem_of_getElem? (i := 830) (by decide +kernel)⟩
theorem lw_p33 : lw_okq (⟨"SwanDeedsModel", "fails", "(II)Z"⟩, 19) := ⟨⟨by decide +kernel, by decide +kernel⟩, List.mem_of_getElem? (i := 709) (by decide +kernel), List.mem_of_getElem? (i := 833) (by decide +kernel), List.mem_of_getElem? (i := 834) (by decide +kernel)⟩
theorem lw_p34 : lw_okq (⟨"SwanDeedsModel", "takesNumber", "(III)Z"⟩, 19) := ⟨⟨by decide +kernel, by decide +kernel⟩, List.mem_of_getElem? (i := 709) (by decide +kernel), List.mem_of_getElem? (i := 837) (by decide +kernel), List.mem_of_getElem? (i := 838) (by decide +kernel)⟩
theorem lw_p35 : lw_okq (⟨"SwanDeedsModel", "takesSwan", "()Z"⟩, 19) := ⟨⟨by decide +kernel, by decide +kernel⟩, List.mem_of_getElem? (i := 709) (by decide +kernel), List.mem_of_getElem? (i := 843) (by decide +kernel), List.mem_of_getElem? (i := 844) (by decide +kernel)⟩
theorem lw_p36 : lw_okq (⟨"SwanDeedsModel", "copyAll", "(II)V"⟩, 19) := ⟨⟨by decide +kernel, by decide +kernel⟩, List.mem_of_getElem? (i := 709) (by decide +kernel), List.mem_of_getElem? (i := 851) (by decide +kernel), List.mem_of_getElem? (i := 852) (by decide +kernel)⟩
theorem lw_p37 : lw_okq (⟨"SwanDeedsModel", "isRiver", "()Z"⟩, 19) := ⟨⟨by decide +kernel, by decide +kernel⟩, List.mem_of_getElem? (i := 709) (by decide +kernel), List.mem_of_getElem? (i := 868) (by decide +kernel), List.mem_of_getElem? (i := 869) (by decide +kernel)⟩
theorem lw_p38 : lw_okq (⟨"SwanDeedsModel", "minds", "()V"⟩, 19) := ⟨⟨by decide +kernel, by decide +kernel⟩, List.mem_of_getElem? (i := 709) (by decide +kernel), List.mem_of_getElem? (i := 873) (by decide +kernel), List.mem_of_getElem? (i := 874) (by decide +kernel)⟩
theorem lw_p39 : lw_okq (⟨"SwanDeedsModel", "passes", "(I)V"⟩, 19) := ⟨⟨by decide +kernel, by decide +kernel⟩, List.mem_of_getElem? (i := 709) (by decide +kernel), List.mem_of_getElem? (i := 877) (by decide +kernel), List.mem_of_getElem? (i := 878) (by decide +kernel)⟩
theorem lw_p40 : lw_okq (⟨"SwanDeedsModel", "swimsTo", "(II)I"⟩, 19) := ⟨⟨by decide +kernel, by decide +kernel⟩, List.mem_of_getElem? (i := 709) (by decide +kernel), List.mem_of_getElem? (i := 881) (by decide +kernel), List.mem_of_getElem? (i := 882) (by decide +kernel)⟩
theorem lw_p41 : lw_okq (⟨"SwanDeedsModel", "towards", "(III)I"⟩, 19) := ⟨⟨by decide +kernel, by decide +kernel⟩, List.mem_of_getElem? (i := 709) (by decide +kernel), List.mem_of_getElem? (i := 885) (by decide +kernel), List.mem_of_getElem? (i := 886) (by decide +kernel)⟩
theorem lw_p42 : lw_okq (⟨"SwanDeedsModel", "seesOn", "(III)I"⟩, 19) := ⟨⟨by decide +kernel, by decide +kernel⟩, List.mem_of_getElem? (i := 709) (by decide +kernel), List.mem_of_getElem? (i := 889) (by decide +kernel), List.mem_of_getElem? (i := 890) (by decide +kernel)⟩
theorem lw_p43 : lw_okq (⟨"SwanDeedsModel", "isOpen", "(III)Z"⟩, 19) := ⟨⟨by decide +kernel, by decide +kernel⟩, List.mem_of_getElem? (i := 709) (by decide +kernel), List.mem_of_getElem? (i := 893) (by decide +kernel), List.mem_of_getElem? (i := 894) (by decide +kernel)⟩
theorem lw_p44 : lw_okq (⟨"SwanDeedsModel", "fightsOn", "(II)V"⟩, 19) := ⟨⟨by decide +kernel, by decide +kernel⟩, List.mem_of_getElem? (i := 709) (by decide +kernel), List.mem_of_getElem? (i := 900) (by decide +kernel), List.mem_of_getElem? (i := 901) (by decide +kernel)⟩
theorem lw_p45 : lw_okq (⟨"SwanDeedsModel", "ownersIn", "(I)I"⟩, 19) := ⟨⟨by decide +kernel, by decide +kernel⟩, List.mem_of_getElem? (i := 709) (by decide +kernel), List.mem_of_getElem? (i := 904) (by decide +kernel), List.mem_of_getElem? (i := 905) (by decide +kernel)⟩
theorem lw_p46 : lw_okq (⟨"SwanDeedsModel", "isLawn", "(I)Z"⟩, 19) := ⟨⟨by decide +kernel, by decide +kernel⟩, List.mem_of_getElem? (i := 709) (by decide +kernel), List.mem_of_getElem? (i := 915) (by decide +kernel), List.mem_of_getElem? (i := 916) (by decide +kernel)⟩
theorem lw_p47 : lw_okq (⟨"SwanDeedsModel", "throwsOn", "(III)V"⟩, 19) := ⟨⟨by decide +kernel, by decide +kernel⟩, List.mem_of_getElem? (i := 709) (by decide +kernel), List.mem_of_getElem? (i := 920) (by decide +kernel), List.mem_of_getElem? (i := 921) (by decide +kernel)⟩
def lw_privs_3 : List (MethodName × Nat) := [(⟨"SwanDeedsModel", "byteAt", "(I)I"⟩, 19), (⟨"SwanDeedsModel", "fails", "(II)Z"⟩, 19), (⟨"SwanDeedsModel", "takesNumber", "(III)Z"⟩, 19), (⟨"SwanDeedsModel", "takesSwan", "()Z"⟩, 19), (⟨"SwanDeedsModel", "copyAll", "(II)V"⟩, 19), (⟨"SwanDeedsModel", "isRiver", "()Z"⟩, 19), (⟨"SwanDeedsModel", "minds", "()V"⟩, 19), (⟨"SwanDeedsModel", "passes", "(I)V"⟩, 19), (⟨"SwanDeedsModel", "swimsTo", "(II)I"⟩, 19), (⟨"SwanDeedsModel", "towards", "(III)I"⟩, 19), (⟨"SwanDeedsModel", "seesOn", "(III)I"⟩, 19), (⟨"SwanDeedsModel", "isOpen", "(III)Z"⟩, 19), (⟨"SwanDeedsModel", "fightsOn", "(II)V"⟩, 19), (⟨"SwanDeedsModel", "ownersIn", "(I)I"⟩, 19), (⟨"SwanDeedsModel", "isLawn", "(I)Z"⟩, 19), (⟨"SwanDeedsModel", "throwsOn", "(III)V"⟩, 19)]
theorem lw_r3 : ∀ q ∈ lw_privs_3, lw_okq q := List.forall_mem_cons.mpr ⟨lw_p32, List.forall_mem_cons.mpr ⟨lw_p33, List.forall_mem_cons.mpr ⟨lw_p34, List.forall_mem_cons.mpr ⟨lw_p35, List.forall_mem_cons.mpr ⟨lw_p36, List.forall_mem_cons.mpr ⟨lw_p37, List.forall_mem_cons.mpr ⟨lw_p38, List.forall_mem_cons.mpr ⟨lw_p39, List.forall_mem_cons.mpr ⟨lw_p40, List.forall_mem_cons.mpr ⟨lw_p41, List.forall_mem_cons.mpr ⟨lw_p42, List.forall_mem_cons.mpr ⟨lw_p43, List.forall_mem_cons.mpr ⟨lw_p44, List.forall_mem_cons.mpr ⟨lw_p45, List.forall_mem_cons.mpr ⟨lw_p46, List.forall_mem_cons.mpr ⟨lw_p47, fun _ h => absurd h List.not_mem_nil⟩⟩⟩⟩⟩⟩⟩⟩⟩⟩⟩⟩⟩⟩⟩⟩
theorem lw_p48 : lw_okq (⟨"SwanDeedsModel", "isSwan", "(I)Z"⟩, 19) := ⟨⟨by decide +kernel, by decide +kernel⟩, List.mem_of_getElem? (i := 709) (by decide +kernel), List.mem_of_getElem? (i := 932) (by decide +kernel), List.mem_of_getElem? (i := 933) (by decide +kernel)⟩
theorem lw_p49 : lw_okq (⟨"SwanDeedsModel", "swansOn", "(II)I"⟩, 19) := ⟨⟨by decide +kernel, by decide +kernel⟩, List.mem_of_getElem? (i := 709) (by decide +kernel), List.mem_of_getElem? (i := 948) (by decide +kernel), List.mem_of_getElem? (i := 949) (by decide +kernel)⟩
theorem lw_p50 : lw_okq (⟨"SwanDeedsModel", "plotsOf", "(II)I"⟩, 19) := ⟨⟨by decide +kernel, by decide +kernel⟩, List.mem_of_getElem? (i := 709) (by decide +kernel), List.mem_of_getElem? (i := 952) (by decide +kernel), List.mem_of_getElem? (i := 953) (by decide +kernel)⟩
theorem lw_p51 : lw_okq (⟨"SwanDeedsModel", "triesFor", "(I)V"⟩, 19) := ⟨⟨by decide +kernel, by decide +kernel⟩, List.mem_of_getElem? (i := 709) (by decide +kernel), List.mem_of_getElem? (i := 964) (by decide +kernel), List.mem_of_getElem? (i := 965) (by decide +kernel)⟩
theorem lw_p52 : lw_okq (⟨"SwanDeedsModel", "tries", "()V"⟩, 19) := ⟨⟨by decide +kernel, by decide +kernel⟩, List.mem_of_getElem? (i := 709) (by decide +kernel), List.mem_of_getElem? (i := 968) (by decide +kernel), List.mem_of_getElem? (i := 969) (by decide +kernel)⟩
theorem lw_p53 : lw_okq (⟨"SwanDeedsModel", "leaves", "(I)I"⟩, 19) := ⟨⟨by decide +kernel, by decide +kernel⟩, List.mem_of_getElem? (i := 709) (by decide +kernel), List.mem_of_getElem? (i := 984) (by decide +kernel), List.mem_of_getElem? (i := 985) (by decide +kernel)⟩
theorem lw_p54 : lw_okq (⟨"SwanDeedsModel", "fewestOf", "(IIIIZ)I"⟩, 19) := ⟨⟨by decide +kernel, by decide +kernel⟩, List.mem_of_getElem? (i := 709) (by decide +kernel), List.mem_of_getElem? (i := 1001) (by decide +kernel), List.mem_of_getElem? (i := 1002) (by decide +kernel)⟩
theorem lw_p55 : lw_okq (⟨"SwanDeedsModel", "fewest", "(IIIZ)I"⟩, 19) := ⟨⟨by decide +kernel, by decide +kernel⟩, List.mem_of_getElem? (i := 709) (by decide +kernel), List.mem_of_getElem? (i := 1006) (by decide +kernel), List.mem_of_getElem? (i := 1007) (by decide +kernel)⟩
theorem lw_p56 : lw_okq (⟨"SwanDeedsModel", "against", "(III)I"⟩, 19) := ⟨⟨by decide +kernel, by decide +kernel⟩, List.mem_of_getElem? (i := 709) (by decide +kernel), List.mem_of_getElem? (i := 1035) (by decide +kernel), List.mem_of_getElem? (i := 1036) (by decide +kernel)⟩
theorem lw_p57 : lw_okq (⟨"SwanDeedsModel", "isSo", "(III)Z"⟩, 19) := ⟨⟨by decide +kernel, by decide +kernel⟩, List.mem_of_getElem? (i := 709) (by decide +kernel), List.mem_of_getElem? (i := 1039) (by decide +kernel), List.mem_of_getElem? (i := 1040) (by decide +kernel)⟩
theorem lw_p58 : lw_okq (⟨"SwanDeedsModel", "size", "(I)I"⟩, 19) := ⟨⟨by decide +kernel, by decide +kernel⟩, List.mem_of_getElem? (i := 709) (by decide +kernel), List.mem_of_getElem? (i := 1086) (by decide +kernel), List.mem_of_getElem? (i := 1087) (by decide +kernel)⟩
theorem lw_p59 : lw_okq (⟨"SwanDeedsModel", "begins", "(I)V"⟩, 19) := ⟨⟨by decide +kernel, by decide +kernel⟩, List.mem_of_getElem? (i := 709) (by decide +kernel), List.mem_of_getElem? (i := 1090) (by decide +kernel), List.mem_of_getElem? (i := 1091) (by decide +kernel)⟩
theorem lw_p60 : lw_okq (⟨"SwanDeedsModel", "sizePen", "(I)I"⟩, 19) := ⟨⟨by decide +kernel, by decide +kernel⟩, List.mem_of_getElem? (i := 709) (by decide +kernel), List.mem_of_getElem? (i := 1094) (by decide +kernel), List.mem_of_getElem? (i := 1095) (by decide +kernel)⟩
theorem lw_p61 : lw_okq (⟨"SwanDeedsModel", "mark", "(I)I"⟩, 19) := ⟨⟨by decide +kernel, by decide +kernel⟩, List.mem_of_getElem? (i := 709) (by decide +kernel), List.mem_of_getElem? (i := 1098) (by decide +kernel), List.mem_of_getElem? (i := 1099) (by decide +kernel)⟩
theorem lw_p62 : lw_okq (⟨"SwanDeedsModel", "markPen", "(I)I"⟩, 19) := ⟨⟨by decide +kernel, by decide +kernel⟩, List.mem_of_getElem? (i := 709) (by decide +kernel), List.mem_of_getElem? (i := 1102) (by decide +kernel), List.mem_of_getElem? (i := 1103) (by decide +kernel)⟩
theorem lw_p63 : lw_okq (⟨"SwanDeedsModel", "markLent", "(I)I"⟩, 19) := ⟨⟨by decide +kernel, by decide +kernel⟩, List.mem_of_getElem? (i := 709) (by decide +kernel), List.mem_of_getElem? (i := 1106) (by decide +kernel), List.mem_of_getElem? (i := 1107) (by decide +kernel)⟩
def lw_privs_4 : List (MethodName × Nat) := [(⟨"SwanDeedsModel", "isSwan", "(I)Z"⟩, 19), (⟨"SwanDeedsModel", "swansOn", "(II)I"⟩, 19), (⟨"SwanDeedsModel", "plotsOf", "(II)I"⟩, 19), (⟨"SwanDeedsModel", "triesFor", "(I)V"⟩, 19), (⟨"SwanDeedsModel", "tries", "()V"⟩, 19), (⟨"SwanDeedsModel", "leaves", "(I)I"⟩, 19), (⟨"SwanDeedsModel", "fewestOf", "(IIIIZ)I"⟩, 19), (⟨"SwanDeedsModel", "fewest", "(IIIZ)I"⟩, 19), (⟨"SwanDeedsModel", "against", "(III)I"⟩, 19), (⟨"SwanDeedsModel", "isSo", "(III)Z"⟩, 19), (⟨"SwanDeedsModel", "size", "(I)I"⟩, 19), (⟨"SwanDeedsModel", "begins", "(I)V"⟩, 19), (⟨"SwanDeedsModel", "sizePen", "(I)I"⟩, 19), (⟨"SwanDeedsModel", "mark", "(I)I"⟩, 19), (⟨"SwanDeedsModel", "markPen", "(I)I"⟩, 19), (⟨"SwanDeedsModel", "markLent", "(I)I"⟩, 19)]
theorem lw_r4 : ∀ q ∈ lw_privs_4, lw_okq q := List.forall_mem_cons.mpr ⟨lw_p48, List.forall_mem_cons.mpr ⟨lw_p49, List.forall_mem_cons.mpr ⟨lw_p50, List.forall_mem_cons.mpr ⟨lw_p51, List.forall_mem_cons.mpr ⟨lw_p52, List.forall_mem_cons.mpr ⟨lw_p53, List.forall_mem_cons.mpr ⟨lw_p54, List.forall_mem_cons.mpr ⟨lw_p55, List.forall_mem_cons.mpr ⟨lw_p56, List.forall_mem_cons.mpr ⟨lw_p57, List.forall_mem_cons.mpr ⟨lw_p58, List.forall_mem_cons.mpr ⟨lw_p59, List.forall_mem_cons.mpr ⟨lw_p60, List.forall_mem_cons.mpr ⟨lw_p61, List.forall_mem_cons.mpr ⟨lw_p62, List.forall_mem_cons.mpr ⟨lw_p63, fun _ h => absurd h List.not_mem_nil⟩⟩⟩⟩⟩⟩⟩⟩⟩⟩⟩⟩⟩⟩⟩⟩
theorem lw_p64 : lw_okq (⟨"SwanDeedsModel", "sizeOld", "(IZ)I"⟩, 19) := ⟨⟨by decide +kernel, by decide +kernel⟩, List.mem_of_getElem? (i := 709) (by decide +kernel), List.mem_of_getElem? (i := 1110) (by decide +kernel), List.mem_of_getElem? (i := 1111) (by decide +kernel)⟩
theorem lw_p65 : lw_okq (⟨"SwanDeedsModel", "crumbsOfAll", "()I"⟩, 19) := ⟨⟨by decide +kernel, by decide +kernel⟩, List.mem_of_getElem? (i := 709) (by decide +kernel), List.mem_of_getElem? (i := 1122) (by decide +kernel), List.mem_of_getElem? (i := 1123) (by decide +kernel)⟩
def lw_privs_5 : List (MethodName × Nat) := [(⟨"SwanDeedsModel", "sizeOld", "(IZ)I"⟩, 19), (⟨"SwanDeedsModel", "crumbsOfAll", "()I"⟩, 19)]
theorem lw_r5 : ∀ q ∈ lw_privs_5, lw_okq q := List.forall_mem_cons.mpr ⟨lw_p64, List.forall_mem_cons.mpr ⟨lw_p65, fun _ h => absurd h List.not_mem_nil⟩⟩
def lw_privs : List (MethodName × Nat) := lw_privs_1 ++ (lw_privs_2 ++ (lw_privs_3 ++ (lw_privs_4 ++ (lw_privs_5))))
def lw_tbl : List Cond := k2_sels lw_privs ++ tables_1
theorem lw_privs_ok : ∀ q ∈ lw_privs, lw_okq q := by
  show ∀ q ∈ lw_privs_1 ++ (lw_privs_2 ++ (lw_privs_3 ++ (lw_privs_4 ++ (lw_privs_5)))), lw_okq q
  exact List.forall_mem_append.mpr ⟨lw_r1, List.forall_mem_append.mpr ⟨lw_r2, List.forall_mem_append.mpr ⟨lw_r3, List.forall_mem_append.mpr ⟨lw_r4, lw_r5⟩⟩⟩⟩
end
section
/-! THE PURE LEVEL: ints as Int, a memory as a function, a frame as a list of locals and a list of values. -/
def I3 (x : Int) : Int32 := Int32.ofInt x
def J6 (x : Int) : Int64 := Int64.ofInt x
def w3 (x : Int) : Int := (I3 x).toInt
def w6 (x : Int) : Int := (J6 x).toInt
def inR (x : Int) : Prop := -2147483648 ≤ x ∧ x < 2147483648
def inL (x : Int) : Prop := -9223372036854775808 ≤ x ∧ x < 9223372036854775808
theorem toInt_R (x : Int32) : inR x.toInt := ⟨by have := Int32.le_toInt x; omega, by have := Int32.toInt_lt x; omega⟩
theorem toInt_L (x : Int64) : inL x.toInt := ⟨by have := Int64.le_toInt x; omega, by have := Int64.toInt_lt x; omega⟩
theorem w3_R (x : Int) : inR (w3 x) := toInt_R _
theorem w6_L (x : Int) : inL (w6 x) := toInt_L _
theorem I3_w3 (x : Int) : I3 (w3 x) = I3 x := Int32.ofInt_toInt _
theorem J6_w6 (x : Int) : J6 (w6 x) = J6 x := Int64.ofInt_toInt _
theorem I3_toInt (x : Int32) : I3 x.toInt = x := Int32.ofInt_toInt _
theorem J6_toInt (x : Int64) : J6 x.toInt = x := Int64.ofInt_toInt _
theorem w3_id {x : Int} (h1 : -2147483648 ≤ x) (h2 : x ≤ 2147483647) : w3 x = x := Int32.toInt_ofInt_of_le (by omega) (by omega)
theorem w6_id {x : Int} (h1 : -9223372036854775808 ≤ x) (h2 : x ≤ 9223372036854775807) : w6 x = x := Int64.toInt_ofInt_of_le (by omega) (by omega)
theorem I3_t {x : Int} (h : inR x) : (I3 x).toInt = x := w3_id h.1 (by have := h.2; omega)
theorem J6_t {x : Int} (h : inL x) : (J6 x).toInt = x := w6_id h.1 (by have := h.2; omega)
theorem I3_add (x y : Int) : I3 x + I3 y = I3 (w3 (x + y)) := by rw [I3_w3]; exact (Int32.ofInt_add x y).symm
theorem I3_sub (x y : Int) : I3 x - I3 y = I3 (w3 (x - y)) := by rw [I3_w3]; exact (Int32.ofInt_sub x y).symm
theorem I3_mul (x y : Int) : I3 x * I3 y = I3 (w3 (x * y)) := by rw [I3_w3]; exact (Int32.ofInt_mul x y).symm
theorem I3_neg (x : Int) : - I3 x = I3 (w3 (-x)) := by rw [I3_w3]; exact (Int32.ofInt_neg x).symm
theorem J6_add (x y : Int) : J6 x + J6 y = J6 (w6 (x + y)) := by rw [J6_w6]; exact (Int64.ofInt_add x y).symm
theorem J6_mul (x y : Int) : J6 x * J6 y = J6 (w6 (x * y)) := by rw [J6_w6]; exact (Int64.ofInt_mul x y).symm
theorem I3_le {x y : Int} (hx : inR x) (hy : inR y) : I3 x ≤ I3 y ↔ x ≤ y := by rw [Int32.le_iff_toInt_le, I3_t hx, I3_t hy]
theorem I3_lt {x y : Int} (hx : inR x) (hy : inR y) : I3 x < I3 y ↔ x < y := by rw [Int32.lt_iff_toInt_lt, I3_t hx, I3_t hy]
theorem I3_eq {x y : Int} (hx : inR x) (hy : inR y) : I3 x = I3 y ↔ x = y := by rw [← Int32.toInt_inj, I3_t hx, I3_t hy]
theorem J6_eq {x y : Int} (hx : inL x) (hy : inL y) : J6 x = J6 y ↔ x = y := by rw [← Int64.toInt_inj, J6_t hx, J6_t hy]
theorem inR_0 : inR 0 := ⟨by decide, by decide⟩
theorem inR_L {x : Int} (h : inR x) : inL x := ⟨by have := h.1; omega, by have := h.2; omega⟩
/-- and, or, xor, shifts, narrowings on ints, as the machine has them -/
def bAnd (x y : Int) : Int := (I3 x &&& I3 y).toInt
def bOr (x y : Int) : Int := (I3 x ||| I3 y).toInt
def bXor (x y : Int) : Int := (I3 x ^^^ I3 y).toInt
def bShl (x y : Int) : Int := (I3 x <<< (I3 y &&& 31)).toInt
def bShr (x y : Int) : Int := (I3 x >>> (I3 y &&& 31)).toInt
def bUsh (x y : Int) : Int := ((I3 x).toUInt32 >>> ((I3 y).toUInt32 &&& Int32.toUInt32 31)).toInt32.toInt
def n8 (x : Int) : Int := (I3 x).toInt8.toInt32.toInt
def n16 (x : Int) : Int := (I3 x).toInt16.toInt32.toInt
def lDiv (x y : Int) : Int := (J6 x / J6 y).toInt
def lRem (x y : Int) : Int := (J6 x - J6 x / J6 y * J6 y).toInt
def cmp3 (x y : Int) : Int := if y < x then 1 else if x = y then 0 else -1
/-- a memory: groups of ints -/
abbrev Mm : Type := Nat → Int → Int
abbrev Vv : Type := Int ⊕ (Int ⊕ Nat)
abbrev Vi (x : Int) : Vv := .inl x
abbrev Vl (x : Int) : Vv := .inr (.inl x)
abbrev Vr (k : Nat) : Vv := .inr (.inr k)
def tv (ad : Nat → Nat) (v : Vv) : Value := match v with
  | .inl x => .int (I3 x)
  | .inr (.inl x) => .long (J6 x)
  | .inr (.inr k) => .ref (ad k)
def okV (v : Vv) : Prop := match v with
  | .inl x => inR x
  | .inr (.inl x) => inL x
  | .inr (.inr _) => True
def okM (μ : Mm) : Prop := ∀ g o, inR (μ g o)
def sM (μ : Mm) (g : Nat) (o v : Int) : Mm := fun g' o' => if g' = g ∧ o' = o then v else μ g' o'
theorem sM_ok {μ : Mm} {g : Nat} {o v : Int} (h : okM μ) (hv : inR v) : okM (sM μ g o v) := fun g' o' => by
  unfold sM
  split
  · exact hv
  · exact h g' o'
theorem sM_s (μ : Mm) (g : Nat) (o v : Int) : sM μ g o v g o = v := by simp [sM]
theorem sM_n {μ : Mm} {g g' : Nat} {o o' v : Int} (h : ¬ (g' = g ∧ o' = o)) : sM μ g o v g' o' = μ g' o' := by simp only [sM]; exact if_neg h
/-- a residual, and what is wanted of its value -/
def Sat {α : Type} (o : Option α) (K : α → Prop) : Prop := ∃ y, o = some y ∧ K y
def chk {α : Type} (c : Prop) [Decidable c] (t : Option α) : Option α := if c then t else none
def bnd {α β : Type} (x : α) (f : α → β) : β := f x
def loopO {σ ρ : Type} (body : σ → Option (σ ⊕ ρ)) : Nat → σ → Option ρ
  | 0, _ => none
  | n + 1, x => match body x with
    | none => none
    | some (.inl x') => loopO body n x'
    | some (.inr r) => some r
theorem sat_ite {α : Type} {c : Prop} [Decidable c] {a b : Option α} {K : α → Prop} {P : Prop} (h : Sat (if c then a else b) K) (h1 : c → Sat a K → P) (h2 : ¬ c → Sat b K → P) : P := by
  by_cases hc : c
  · rw [if_pos hc] at h; exact h1 hc h
  · rw [if_neg hc] at h; exact h2 hc h
theorem sat_t {α : Type} {c : Prop} [Decidable c] {a b : Option α} {K : α → Prop} (h : Sat (if c then a else b) K) (hc : c) : Sat a K := by rw [if_pos hc] at h; exact h
theorem sat_f {α : Type} {c : Prop} [Decidable c] {a b : Option α} {K : α → Prop} (h : Sat (if c then a else b) K) (hc : ¬ c) : Sat b K := by rw [if_neg hc] at h; exact h
theorem sat_chk {α : Type} {c : Prop} [Decidable c] {a : Option α} {K : α → Prop} (h : Sat (chk c a) K) : c ∧ Sat a K := by
  unfold chk at h
  by_cases hc : c
  · rw [if_pos hc] at h; exact ⟨hc, h⟩
  · rw [if_neg hc] at h; obtain ⟨y, hy, _⟩ := h; cases hy
theorem sat_bind {α β : Type} {o : Option α} {f : α → Option β} {K : β → Prop} (h : Sat (o.bind f) K) : ∃ z, o = some z ∧ Sat (f z) K := by
  obtain ⟨y, hy, hk⟩ := h
  cases o with
  | none => cases hy
  | some z => exact ⟨z, rfl, y, hy, hk⟩
theorem sat_bnd {α β : Type} {x : α} {f : α → Option β} {K : β → Prop} (h : Sat (bnd x f) K) : ∃ y, y = x ∧ Sat (f y) K := ⟨x, rfl, h⟩
theorem sat_some {α : Type} {y : α} {K : α → Prop} (h : Sat (some y) K) : K y := by
  obtain ⟨z, hz, hk⟩ := h
  cases hz
  exact hk
theorem sat_of {α : Type} {o : Option α} {z : α} (h : o = some z) : Sat o (fun y => y = z) := ⟨z, h, rfl⟩
theorem loop_walk {σ ρ : Type} {body : σ → Option (σ ⊕ ρ)} {K : ρ → Prop} (P : σ → Prop) (step : ∀ x, Sat (body x) (fun y => match y with | .inl x' => P x' | .inr r => K r) → P x) : ∀ (n : Nat) (x0 : σ), Sat (loopO body n x0) K → P x0 := by
  intro n
  induction n with
  | zero => intro x0 h; obtain ⟨y, hy, _⟩ := h; cases hy
  | succ n ih =>
    intro x0 h
    apply step
    obtain ⟨y, hy, hk⟩ := h
    unfold loopO at hy
    cases hb : body x0 with
    | none => rw [hb] at hy; cases hy
    | some w =>
      rw [hb] at hy
      cases w with
      | inl x' => exact ⟨_, rfl, ih x' ⟨y, hy, hk⟩⟩
      | inr r => refine ⟨_, rfl, ?_⟩; cases hy; exact hk
/-- the world as a list of cells -/
def XX (N : Nat) (ad : Nat → Nat) (E : Mm → Nat → va_E) (μ : Mm) : va_W := (List.range N).map (fun k => (ad k, E μ k))
theorem XX_get {N : Nat} {ad : Nat → Nat} {E : Mm → Nat → va_E} {μ : Mm} {k : Nat} (h : k < N) : (XX N ad E μ)[k]? = some (ad k, E μ k) := by
  unfold XX
  rw [List.getElem?_map, List.getElem?_range h]
  rfl
theorem XX_some {N : Nat} {ad : Nat → Nat} {E : Mm → Nat → va_E} {μ : Mm} {k : Nat} {q : Nat × va_E} (h : (XX N ad E μ)[k]? = some q) : k < N ∧ q = (ad k, E μ k) := by
  by_cases hk : k < N
  · rw [XX_get hk] at h
    exact ⟨hk, (Option.some.inj h).symm⟩
  · unfold XX at h
    rw [List.getElem?_map, List.getElem?_eq_none (by rw [List.length_range]; omega)] at h
    cases h
theorem XX_set {N : Nat} {ad : Nat → Nat} {E : Mm → Nat → va_E} {μ μ' : Mm} {k : Nat} {x : va_E} (hx : x = E μ' k) (h : ∀ j, j < N → j ≠ k → E μ' j = E μ j) : (XX N ad E μ).set k (ad k, x) = XX N ad E μ' := by
  subst hx
  apply List.ext_getElem?
  intro j
  rw [List.getElem?_set]
  by_cases hj : j < N
  · by_cases hjk : k = j
    · subst hjk
      rw [if_pos rfl, XX_get hj]
      rw [if_pos (by unfold XX; rw [List.length_map, List.length_range]; exact hj)]
    · rw [if_neg hjk, XX_get hj, XX_get hj, h j hj (fun q => hjk q.symm)]
  · have e1 : (XX N ad E μ')[j]? = none := List.getElem?_eq_none (by unfold XX; rw [List.length_map, List.length_range]; omega)
    have e2 : (XX N ad E μ)[j]? = none := List.getElem?_eq_none (by unfold XX; rw [List.length_map, List.length_range]; omega)
    rw [e1, e2]
    split <;> rename_i hk
    · rw [if_neg (by subst hk; unfold XX; rw [List.length_map, List.length_range]; exact hj)]
    · rfl
theorem XX_A {N : Nat} {ad : Nat → Nat} {E : Mm → Nat → va_E} {μ μ' : Mm} {sz q : Nat} (h : va_A (XX N ad E μ) sz q) : va_A (XX N ad E μ') sz q := by
  rcases h with ⟨k, e, h⟩ | h
  · obtain ⟨h1, h2⟩ := XX_some h
    cases h2
    exact Or.inl ⟨k, E μ' k, XX_get h1⟩
  · exact Or.inr h
theorem XX_D {N : Nat} {ad : Nat → Nat} {E : Mm → Nat → va_E} {μ μ' : Mm} {A : Nat → Prop} (h : va_D A (XX N ad E μ)) : va_D A (XX N ad E μ') := by
  refine ⟨fun i j p q hi hj hpq => ?_, fun k q hk => ?_⟩
  · obtain ⟨h1, h2⟩ := XX_some hi
    obtain ⟨h3, h4⟩ := XX_some hj
    subst h2 h4
    exact h.1 i j _ _ (XX_get h1) (XX_get h3) hpq
  · obtain ⟨h1, h2⟩ := XX_some hk
    subst h2
    exact h.2 k (ad k, E μ k) (XX_get h1)
/-- the judgement of a walk, and all that stands fast in it -/
def Wq (p : Program) (l : Launch) (e : Env) (R : Room) (s : State) (m : MethodId) (args : Array Value) (below : List Frame) (meth : Method) (c : Code) (Q : State → Prop) (D : va_G) (cl : List vw_C) (A : Nat → Prop) (N : Nat) (ad : Nat → Nat) (E : Mm → Nat → va_E) (nL : Nat) : Mm → Nat → List (Nat × Vv) → List Vv → Prop := fun μ pc L S =>
  ∀ (H : Heap) (locs : List Loc) (ls : Array Slot), okM μ → (∀ v ∈ S, okV v) → (∀ q ∈ L, okV q.2) → va_P D cl (XX N ad E μ) H → va_S A s.heap H locs → lv_has ls nL (L.map (fun q => (q.1, tv ad q.2))) → W p l e R s m args below meth c H locs 0 0 Q (F0 m pc ls (S.map (tv ad)))
def Qz (D : va_G) (cl : List vw_C) (N : Nat) (ad : Nat → Nat) (E : Mm → Nat → va_E) (A : Nat → Prop) (ret : Option FieldType) (z : Int × Mm) : Array Value → State → Outcome → State → Prop := match ret with
  | none => va_Qv (fun (_ : Unit) => okM z.2) (fun _ U => va_P D cl (XX N ad E z.2) U.heap) A
  | some .long => va_Ql (fun x (_ : Unit) => x = J6 z.1 ∧ inL z.1 ∧ okM z.2) (fun _ U => va_P D cl (XX N ad E z.2) U.heap) A
  | some .boolean => va_Qi (fun x (_ : Unit) => x = I3 z.1 ∧ (z.1 = 0 ∨ z.1 = 1) ∧ okM z.2) (fun _ U => va_P D cl (XX N ad E z.2) U.heap) A
  | some _ => va_Qi (fun x (_ : Unit) => x = I3 z.1 ∧ inR z.1 ∧ okM z.2) (fun _ U => va_P D cl (XX N ad E z.2) U.heap) A
def Pz (D : va_G) (cl : List vw_C) (tys : List (ClassId × FieldType)) (N : Nat) (ad : Nat → Nat) (E : Mm → Nat → va_E) (μ : Mm) (sz : Nat) (U : State) : Prop := U.heap.size = sz ∧ va_P D cl (XX N ad E μ) U.heap ∧ va_K D cl tys U ∧ va_D (fun _ => True) (XX N ad E μ)
/-- a contract: from the memory μ, with these arguments, the method comes back with z -/
def CT (l : Launch) (D : va_G) (cl : List vw_C) (tys : List (ClassId × FieldType)) (N : Nat) (ad : Nat → Nat) (E : Mm → Nat → va_E) (y : MethodName) (ws : List Cond) (rm : Room) (ret : Option FieldType) (as : List Vv) (μ : Mm) (z : Int × Mm) : Prop :=
  okM μ → (∀ v ∈ as, okV v) → ∀ sz : Nat, Met l y ws rm (va_Pc (as.map (tv ad)) (Pz D cl tys N ad E μ sz)) (Qz D cl N ad E (va_A (XX N ad E μ) sz) ret z) 0 0 (va_A (XX N ad E μ) sz)
def Cx (l : Launch) (D : va_G) (cl : List vw_C) (tys : List (ClassId × FieldType)) (N : Nat) (ad : Nat → Nat) (E : Mm → Nat → va_E) (own : String) (Ts : List Cond) (cc : ByteArray) (nL : Nat) (R : Room) (ret : Option FieldType) (z : Int × Mm) (G : Mm → Nat → List (Nat × Vv) → List Vv → Prop) : Prop :=
  ∃ (p : Program) (e : Env) (s : State) (m : MethodId) (args : Array Value) (below : List Frame) (meth : Method) (c : Code) (A : Nat → Prop),
    p.tables.exec = Jvm.exec ∧ c.code = cc ∧ c.maxLocals = nL ∧ meth.sig.returnType = ret ∧ s.vm.findClass own = some m.cls ∧ (∀ w ∈ Ts, w.before args s = true) ∧ meth.locks = false ∧ va_K D cl tys s ∧ (∀ μ, va_D A (XX N ad E μ)) ∧ (∀ q, s.heap.size ≤ q → A q) ∧
    G = Wq p l e R s m args below meth c (MQ below (Qz D cl N ad E A ret z) args s 0 0 A) D cl A N ad E nL
set_option maxHeartbeats 4000000 in
theorem CT_of {l : Launch} {D : va_G} {cl : List vw_C} {tys : List (ClassId × FieldType)} {N : Nat} {ad : Nat → Nat} {E : Mm → Nat → va_E} {y : MethodName} {ws ws' : List Cond} {rm : Room} {ret : Option FieldType} {as : List Vv} {μ : Mm} {z : Int × Mm} {cc : ByteArray} {maxL : Nat} (L0 : List (Nat × Vv))
    (hy : plainName y.cls = true) (hw : ws = Cond.code y cc maxL ret :: ws') (hL : L0.map (fun q => (q.1, tv ad q.2)) = lv_args 0 (as.map (tv ad))) (hn : (lg_sl (as.map (tv ad))).length ≤ maxL) (hLa : L0.map (fun q => q.2) = as)
    (K : ∀ G, Cx l D cl tys N ad E y.cls ws cc maxL rm ret z G → G μ 0 L0 []) : CT l D cl tys N ad E y ws rm ret as μ z := by
  intro hM has sz
  refine Met.ofW (cc := cc) (maxL := maxL) (ret := ret) hy hw ?_
  intro p e s m args below meth c s₁ B hml hv
  obtain ⟨rfl, hsz, hP, hK, hD0⟩ := hv
  have hts := atoms_spec (ws := ws) B.pre
  have hown : s.vm.findClass y.cls = some m.cls := findClass_of_methodNamed B.named
  subst hsz
  have hD := hD0.self (sz := s.heap.size)
  generalize hAe : va_A (XX N ad E μ) s.heap.size = A at hD ⊢
  have hA : ∀ q : Nat, s.heap.size ≤ q → A q := fun q h => by rw [← hAe]; exact Or.inr h
  have hS : va_S A s.heap s.heap [] := va_S.rf
  have hl := lv_entry (as.map (tv ad)) (n := maxL) hn
  rw [lg_entry_eq]
  generalize (lg_sl (as.map (tv ad)) ++ List.replicate (maxL - (lg_sl (as.map (tv ad))).length) Slot.unset).toArray = ls at hl ⊢
  rw [← hL] at hl
  exact K _ ⟨p, e, s, m, _, below, meth, c, A, B.exec, B.bytes, hml, B.returns, hown, hts, B.notSynchronized, hK, fun _ => XX_D hD, hA, rfl⟩ s.heap [] ls hM (fun v h => by cases h) (fun q hq => has q.2 (by rw [← hLa]; exact List.mem_map_of_mem hq)) hP hS hl
end
section
/-! ONE ROW AN INSTRUCTION, over the pure level. -/
theorem cmp3_R (x y : Int) : inR (cmp3 x y) := by
  unfold cmp3
  split
  · exact ⟨by decide, by decide⟩
  · split <;> exact ⟨by decide, by decide⟩
theorem ok_c {v : Vv} {S : List Vv} (h : okV v) (hS : ∀ w ∈ S, okV w) : ∀ w ∈ v :: S, okV w := fun w hw => by
  rcases List.mem_cons.mp hw with h2 | h2
  · rw [h2]; exact h
  · exact hS w h2
theorem ok_t {v : Vv} {S : List Vv} (hS : ∀ w ∈ v :: S, okV w) : ∀ w ∈ S, okV w := fun w h => hS w (List.mem_cons_of_mem _ h)
theorem ok_h {v : Vv} {S : List Vv} (hS : ∀ w ∈ v :: S, okV w) : okV v := hS v List.mem_cons_self
def catV (v : Vv) : Nat := match v with
  | .inl _ => 1
  | .inr (.inl _) => 2
  | .inr (.inr _) => 1
theorem cat_tv (ad : Nat → Nat) (v : Vv) : (tv ad v).category = catV v := by rcases v with x | x | x <;> rfl
def lf1 (i : Nat) (q : Nat × Vv) : Bool := !(q.1 == i) && !(q.1 + 1 == i && catV q.2 == 2)
def lf2 (i : Nat) (q : Nat × Vv) : Bool := !(q.1 == i) && (!(q.1 == i + 1) && !(q.1 + 1 == i && catV q.2 == 2))
theorem lf1_map (ad : Nat → Nat) (i : Nat) (L : List (Nat × Vv)) : (L.map (fun q => (q.1, tv ad q.2))).filter (fun q => !(q.1 == i) && !(q.1 + 1 == i && q.2.category == 2)) = (L.filter (lf1 i)).map (fun q => (q.1, tv ad q.2)) := by
  rw [List.filter_map]
  congr 1
  apply List.filter_congr
  intro q _
  simp only [Function.comp, lf1, cat_tv]
theorem lf2_map (ad : Nat → Nat) (i : Nat) (L : List (Nat × Vv)) : (L.map (fun q => (q.1, tv ad q.2))).filter (fun q => !(q.1 == i) && (!(q.1 == i + 1) && !(q.1 + 1 == i && q.2.category == 2))) = (L.filter (lf2 i)).map (fun q => (q.1, tv ad q.2)) := by
  rw [List.filter_map]
  congr 1
  apply List.filter_congr
  intro q _
  simp only [Function.comp, lf2, cat_tv]
theorem ok_L {i : Nat} {v : Vv} {L : List (Nat × Vv)} {f : Nat × Vv → Bool} (h : okV v) (hL : ∀ q ∈ L, okV q.2) : ∀ q ∈ ((i, v) :: L.filter f), okV q.2 := fun q hq => by
  rcases List.mem_cons.mp hq with h2 | h2
  · rw [h2]; exact h
  · exact hL q (List.mem_filter.mp h2).1
theorem at_L {ad : Nat → Nat} {nL : Nat} {ls : Array Slot} {L : List (Nat × Vv)} (hl : lv_has ls nL (L.map (fun q => (q.1, tv ad q.2)))) (i : Nat) {n : Nat} {v : Vv} (hk : L[i]? = some (n, v)) : ls[n]? = some (.val (tv ad v)) := lv_at hl i (by rw [List.getElem?_map, hk]; rfl)
section RQ
variable {l : Launch} {D : va_G} {cl : List vw_C} {tys : List (ClassId × FieldType)} {N : Nat} {ad : Nat → Nat} {E : Mm → Nat → va_E} {own : String} {Ts : List Cond} {cc : ByteArray} {nL : Nat} {R : Room} {ret : Option FieldType} {z : Int × Mm} {G : Mm → Nat → List (Nat × Vv) → List Vv → Prop} {μ : Mm} {pc : Nat} {L : List (Nat × Vv)} {S : List Vv}
theorem q_iconst (C : Cx l D cl tys N ad E own Ts cc nL R ret z G) {n : Int} (hd : decode cc pc = .ok (.iconst n, 1)) (hn : inR n) (k : G μ (pc + 1) L (Vi n :: S)) : G μ pc L S := by
  obtain ⟨p, e, s, m, args, below, meth, c, A, hx, hb, hml, hr, hown, hts, hlk, hK, hD, hA, rfl⟩ := C
  intro H locs ls hM hS hL hP hSs hl
  refine lv_iconst (v := I3 n) hx hb hd rfl ?_
  exact k H locs ls hM (ok_c hn hS) hL hP hSs hl
theorem q_bipush (C : Cx l D cl tys N ad E own Ts cc nL R ret z G) {n : Int} (hd : decode cc pc = .ok (.bipush n, 2)) (hn : (Int8.ofInt n).toInt32 = I3 n ∧ inR n) (k : G μ (pc + 2) L (Vi n :: S)) : G μ pc L S := by
  obtain ⟨p, e, s, m, args, below, meth, c, A, hx, hb, hml, hr, hown, hts, hlk, hK, hD, hA, rfl⟩ := C
  intro H locs ls hM hS hL hP hSs hl
  refine lv_bipush (v := I3 n) hx hb hd hn.1 ?_
  exact k H locs ls hM (ok_c hn.2 hS) hL hP hSs hl
theorem q_sipush (C : Cx l D cl tys N ad E own Ts cc nL R ret z G) {n : Int} (hd : decode cc pc = .ok (.sipush n, 3)) (hn : (Int16.ofInt n).toInt32 = I3 n ∧ inR n) (k : G μ (pc + 3) L (Vi n :: S)) : G μ pc L S := by
  obtain ⟨p, e, s, m, args, below, meth, c, A, hx, hb, hml, hr, hown, hts, hlk, hK, hD, hA, rfl⟩ := C
  intro H locs ls hM hS hL hP hSs hl
  refine lv_sipush (v := I3 n) hx hb hd hn.1 ?_
  exact k H locs ls hM (ok_c hn.2 hS) hL hP hSs hl
theorem q_lconst (C : Cx l D cl tys N ad E own Ts cc nL R ret z G) {n : Fin 2} {x : Int} (hd : decode cc pc = .ok (.lconst n, 1)) (hn : Int64.ofNat (n : Nat) = J6 x ∧ inL x) (k : G μ (pc + 1) L (Vl x :: S)) : G μ pc L S := by
  obtain ⟨p, e, s, m, args, below, meth, c, A, hx, hb, hml, hr, hown, hts, hlk, hK, hD, hA, rfl⟩ := C
  intro H locs ls hM hS hL hP hSs hl
  refine lv_lconst (v := J6 x) hx hb hd hn.1 ?_
  exact k H locs ls hM (ok_c hn.2 hS) hL hP hSs hl
theorem q_ldc (C : Cx l D cl tys N ad E own Ts cc nL R ret z G) {index : Nat} {v : Int32} {x : Int} (hw : Cond.constant own index v ∈ Ts) (hd : decode cc pc = .ok (.ldc index, 2)) (hn : v = I3 x ∧ inR x) (k : G μ (pc + 2) L (Vi x :: S)) : G μ pc L S := by
  obtain ⟨p, e, s, m, args, below, meth, c, A, hx, hb, hml, hr, hown, hts, hlk, hK, hD, hA, rfl⟩ := C
  intro H locs ls hM hS hL hP hSs hl
  refine lv_ldc (v := v) hx hb hown (hts _ hw) hd ?_
  rw [hn.1]
  exact k H locs ls hM (ok_c hn.2 hS) hL hP hSs hl
theorem q_ldcw (C : Cx l D cl tys N ad E own Ts cc nL R ret z G) {index : Nat} {v : Int32} {x : Int} (hw : Cond.constant own index v ∈ Ts) (hd : decode cc pc = .ok (.ldc_w index, 3)) (hn : v = I3 x ∧ inR x) (k : G μ (pc + 3) L (Vi x :: S)) : G μ pc L S := by
  obtain ⟨p, e, s, m, args, below, meth, c, A, hx, hb, hml, hr, hown, hts, hlk, hK, hD, hA, rfl⟩ := C
  intro H locs ls hM hS hL hP hSs hl
  refine lv_ldcw (v := v) hx hb hown (hts _ hw) hd ?_
  rw [hn.1]
  exact k H locs ls hM (ok_c hn.2 hS) hL hP hSs hl
theorem q_ldc2 (C : Cx l D cl tys N ad E own Ts cc nL R ret z G) {index : Nat} {v : Int64} {x : Int} (hw : Cond.constantLong own index v ∈ Ts) (hd : decode cc pc = .ok (.ldc2_w index, 3)) (hn : v = J6 x ∧ inL x) (k : G μ (pc + 3) L (Vl x :: S)) : G μ pc L S := by
  obtain ⟨p, e, s, m, args, below, meth, c, A, hx, hb, hml, hr, hown, hts, hlk, hK, hD, hA, rfl⟩ := C
  intro H locs ls hM hS hL hP hSs hl
  refine lv_ldc2 (v := v) hx hb hown (hts _ hw) hd ?_
  rw [hn.1]
  exact k H locs ls hM (ok_c hn.2 hS) hL hP hSs hl
theorem q_iload_n (C : Cx l D cl tys N ad E own Ts cc nL R ret z G) {k : Fin 4} {n : Nat} {x : Int} (i : Nat) (hk : L[i]? = some (n, Vi x)) (hd : decode cc pc = .ok (.iload_n k, 1)) (hn : (k : Nat) = n) (kk : G μ (pc + 1) L (Vi x :: S)) : G μ pc L S := by
  obtain ⟨p, e, s, m, args, below, meth, c, A, hx, hb, hml, hr, hown, hts, hlk, hK, hD, hA, rfl⟩ := C
  intro H locs ls hM hS hL hP hSs hl
  refine lv_iload_n hx hb hd hn (at_L hl i hk) ?_
  exact kk H locs ls hM (ok_c (hL _ (List.mem_of_getElem? hk)) hS) hL hP hSs hl
theorem q_iload (C : Cx l D cl tys N ad E own Ts cc nL R ret z G) {n : Nat} {x : Int} (i : Nat) (hk : L[i]? = some (n, Vi x)) (hd : decode cc pc = .ok (.iload n, 2)) (kk : G μ (pc + 2) L (Vi x :: S)) : G μ pc L S := by
  obtain ⟨p, e, s, m, args, below, meth, c, A, hx, hb, hml, hr, hown, hts, hlk, hK, hD, hA, rfl⟩ := C
  intro H locs ls hM hS hL hP hSs hl
  refine lv_iload hx hb hd (at_L hl i hk) ?_
  exact kk H locs ls hM (ok_c (hL _ (List.mem_of_getElem? hk)) hS) hL hP hSs hl
theorem q_istore_n (C : Cx l D cl tys N ad E own Ts cc nL R ret z G) {k : Fin 4} {n : Nat} {x : Int} (L' : List (Nat × Vv)) (hL' : (n, Vi x) :: L.filter (lf1 n) = L') (hlt : n < nL) (hd : decode cc pc = .ok (.istore_n k, 1)) (hn : (k : Nat) = n) (kk : G μ (pc + 1) L' S) : G μ pc L (Vi x :: S) := by
  obtain ⟨p, e, s, m, args, below, meth, c, A, hx, hb, hml, hr, hown, hts, hlk, hK, hD, hA, rfl⟩ := C
  intro H locs ls hM hS hL hP hSs hl
  subst hL'
  refine lv_istore_n hx hb hd hn hl hlt rfl (fun ls' hl' => ?_)
  rw [lf1_map] at hl'
  exact kk H locs ls' hM (ok_t hS) (ok_L (ok_h hS) hL) hP hSs hl'
theorem q_istore (C : Cx l D cl tys N ad E own Ts cc nL R ret z G) {n : Nat} {x : Int} (L' : List (Nat × Vv)) (hL' : (n, Vi x) :: L.filter (lf1 n) = L') (hlt : n < nL) (hd : decode cc pc = .ok (.istore n, 2)) (kk : G μ (pc + 2) L' S) : G μ pc L (Vi x :: S) := by
  obtain ⟨p, e, s, m, args, below, meth, c, A, hx, hb, hml, hr, hown, hts, hlk, hK, hD, hA, rfl⟩ := C
  intro H locs ls hM hS hL hP hSs hl
  subst hL'
  refine lv_istore hx hb hd hl hlt rfl (fun ls' hl' => ?_)
  rw [lf1_map] at hl'
  exact kk H locs ls' hM (ok_t hS) (ok_L (ok_h hS) hL) hP hSs hl'
theorem q_lload_n (C : Cx l D cl tys N ad E own Ts cc nL R ret z G) {k : Fin 4} {n : Nat} {x : Int} (i : Nat) (hk : L[i]? = some (n, Vl x)) (hd : decode cc pc = .ok (.lload_n k, 1)) (hn : (k : Nat) = n) (kk : G μ (pc + 1) L (Vl x :: S)) : G μ pc L S := by
  obtain ⟨p, e, s, m, args, below, meth, c, A, hx, hb, hml, hr, hown, hts, hlk, hK, hD, hA, rfl⟩ := C
  intro H locs ls hM hS hL hP hSs hl
  refine lv_lload_n hx hb hd hn (at_L hl i hk) ?_
  exact kk H locs ls hM (ok_c (hL _ (List.mem_of_getElem? hk)) hS) hL hP hSs hl
theorem q_lload (C : Cx l D cl tys N ad E own Ts cc nL R ret z G) {n : Nat} {x : Int} (i : Nat) (hk : L[i]? = some (n, Vl x)) (hd : decode cc pc = .ok (.lload n, 2)) (kk : G μ (pc + 2) L (Vl x :: S)) : G μ pc L S := by
  obtain ⟨p, e, s, m, args, below, meth, c, A, hx, hb, hml, hr, hown, hts, hlk, hK, hD, hA, rfl⟩ := C
  intro H locs ls hM hS hL hP hSs hl
  refine lv_lload hx hb hd (at_L hl i hk) ?_
  exact kk H locs ls hM (ok_c (hL _ (List.mem_of_getElem? hk)) hS) hL hP hSs hl
theorem q_lstore_n (C : Cx l D cl tys N ad E own Ts cc nL R ret z G) {k : Fin 4} {n : Nat} {x : Int} (L' : List (Nat × Vv)) (hL' : (n, Vl x) :: L.filter (lf2 n) = L') (hlt : n + 1 < nL) (hd : decode cc pc = .ok (.lstore_n k, 1)) (hn : (k : Nat) = n) (kk : G μ (pc + 1) L' S) : G μ pc L (Vl x :: S) := by
  obtain ⟨p, e, s, m, args, below, meth, c, A, hx, hb, hml, hr, hown, hts, hlk, hK, hD, hA, rfl⟩ := C
  intro H locs ls hM hS hL hP hSs hl
  subst hL'
  refine lv_lstore_n hx hb hd hn hl hlt rfl (fun ls' hl' => ?_)
  rw [lf2_map] at hl'
  exact kk H locs ls' hM (ok_t hS) (ok_L (ok_h hS) hL) hP hSs hl'
theorem q_lstore (C : Cx l D cl tys N ad E own Ts cc nL R ret z G) {n : Nat} {x : Int} (L' : List (Nat × Vv)) (hL' : (n, Vl x) :: L.filter (lf2 n) = L') (hlt : n + 1 < nL) (hd : decode cc pc = .ok (.lstore n, 2)) (kk : G μ (pc + 2) L' S) : G μ pc L (Vl x :: S) := by
  obtain ⟨p, e, s, m, args, below, meth, c, A, hx, hb, hml, hr, hown, hts, hlk, hK, hD, hA, rfl⟩ := C
  intro H locs ls hM hS hL hP hSs hl
  subst hL'
  refine lv_lstore hx hb hd hl hlt rfl (fun ls' hl' => ?_)
  rw [lf2_map] at hl'
  exact kk H locs ls' hM (ok_t hS) (ok_L (ok_h hS) hL) hP hSs hl'
theorem q_aload_n (C : Cx l D cl tys N ad E own Ts cc nL R ret z G) {k : Fin 4} {n : Nat} {x : Nat} (i : Nat) (hk : L[i]? = some (n, Vr x)) (hd : decode cc pc = .ok (.aload_n k, 1)) (hn : (k : Nat) = n) (kk : G μ (pc + 1) L (Vr x :: S)) : G μ pc L S := by
  obtain ⟨p, e, s, m, args, below, meth, c, A, hx, hb, hml, hr, hown, hts, hlk, hK, hD, hA, rfl⟩ := C
  intro H locs ls hM hS hL hP hSs hl
  refine lv_aload_n hx hb hd hn (at_L hl i hk) ?_
  exact kk H locs ls hM (ok_c (hL _ (List.mem_of_getElem? hk)) hS) hL hP hSs hl
theorem q_aload (C : Cx l D cl tys N ad E own Ts cc nL R ret z G) {n : Nat} {x : Nat} (i : Nat) (hk : L[i]? = some (n, Vr x)) (hd : decode cc pc = .ok (.aload n, 2)) (kk : G μ (pc + 2) L (Vr x :: S)) : G μ pc L S := by
  obtain ⟨p, e, s, m, args, below, meth, c, A, hx, hb, hml, hr, hown, hts, hlk, hK, hD, hA, rfl⟩ := C
  intro H locs ls hM hS hL hP hSs hl
  refine lv_aload hx hb hd (at_L hl i hk) ?_
  exact kk H locs ls hM (ok_c (hL _ (List.mem_of_getElem? hk)) hS) hL hP hSs hl
theorem q_astore_n (C : Cx l D cl tys N ad E own Ts cc nL R ret z G) {k : Fin 4} {n : Nat} {x : Nat} (L' : List (Nat × Vv)) (hL' : (n, Vr x) :: L.filter (lf1 n) = L') (hlt : n < nL) (hd : decode cc pc = .ok (.astore_n k, 1)) (hn : (k : Nat) = n) (kk : G μ (pc + 1) L' S) : G μ pc L (Vr x :: S) := by
  obtain ⟨p, e, s, m, args, below, meth, c, A, hx, hb, hml, hr, hown, hts, hlk, hK, hD, hA, rfl⟩ := C
  intro H locs ls hM hS hL hP hSs hl
  subst hL'
  refine lv_astore_n hx hb hd hn hl hlt rfl (fun ls' hl' => ?_)
  rw [lf1_map] at hl'
  exact kk H locs ls' hM (ok_t hS) (ok_L (ok_h hS) hL) hP hSs hl'
theorem q_astore (C : Cx l D cl tys N ad E own Ts cc nL R ret z G) {n : Nat} {x : Nat} (L' : List (Nat × Vv)) (hL' : (n, Vr x) :: L.filter (lf1 n) = L') (hlt : n < nL) (hd : decode cc pc = .ok (.astore n, 2)) (kk : G μ (pc + 2) L' S) : G μ pc L (Vr x :: S) := by
  obtain ⟨p, e, s, m, args, below, meth, c, A, hx, hb, hml, hr, hown, hts, hlk, hK, hD, hA, rfl⟩ := C
  intro H locs ls hM hS hL hP hSs hl
  subst hL'
  refine lv_astore hx hb hd hl hlt rfl (fun ls' hl' => ?_)
  rw [lf1_map] at hl'
  exact kk H locs ls' hM (ok_t hS) (ok_L (ok_h hS) hL) hP hSs hl'
theorem q_iinc (C : Cx l D cl tys N ad E own Ts cc nL R ret z G) {n : Nat} {d x : Int} (i : Nat) (hk : L[i]? = some (n, Vi x)) (L' : List (Nat × Vv)) (hL' : (n, Vi (w3 (x + d))) :: L.filter (lf1 n) = L') (hlt : n < nL) (hd : decode cc pc = .ok (.iinc n d, 3)) (kk : G μ (pc + 3) L' S) : G μ pc L S := by
  obtain ⟨p, e, s, m, args, below, meth, c, A, hx, hb, hml, hr, hown, hts, hlk, hK, hD, hA, rfl⟩ := C
  intro H locs ls hM hS hL hP hSs hl
  subst hL'
  refine lv_iinc (v := I3 (w3 (x + d))) (x := I3 x) hx hb hd hl (k := i) (by rw [List.getElem?_map, hk]; rfl) (I3_add x d) hlt rfl (fun ls' hl' => ?_)
  rw [lf1_map] at hl'
  exact kk H locs ls' hM hS (ok_L (w3_R _) hL) hP hSs hl'
theorem q_iadd (C : Cx l D cl tys N ad E own Ts cc nL R ret z G) {x y : Int} (hd : decode cc pc = .ok (.iadd, 1)) (k : G μ (pc + 1) L (Vi (w3 (x + y)) :: S)) : G μ pc L (Vi y :: Vi x :: S) := by
  obtain ⟨p, e, s, m, args, below, meth, c, A, hx, hb, hml, hr, hown, hts, hlk, hK, hD, hA, rfl⟩ := C
  intro H locs ls hM hS hL hP hSs hl
  refine lv_iadd hx hb hd ?_
  rw [I3_add]
  exact k H locs ls hM (ok_c (w3_R _) (ok_t (ok_t hS))) hL hP hSs hl
theorem q_isub (C : Cx l D cl tys N ad E own Ts cc nL R ret z G) {x y : Int} (hd : decode cc pc = .ok (.isub, 1)) (k : G μ (pc + 1) L (Vi (w3 (x - y)) :: S)) : G μ pc L (Vi y :: Vi x :: S) := by
  obtain ⟨p, e, s, m, args, below, meth, c, A, hx, hb, hml, hr, hown, hts, hlk, hK, hD, hA, rfl⟩ := C
  intro H locs ls hM hS hL hP hSs hl
  refine lv_isub hx hb hd ?_
  rw [I3_sub]
  exact k H locs ls hM (ok_c (w3_R _) (ok_t (ok_t hS))) hL hP hSs hl
theorem q_imul (C : Cx l D cl tys N ad E own Ts cc nL R ret z G) {x y : Int} (hd : decode cc pc = .ok (.imul, 1)) (k : G μ (pc + 1) L (Vi (w3 (x * y)) :: S)) : G μ pc L (Vi y :: Vi x :: S) := by
  obtain ⟨p, e, s, m, args, below, meth, c, A, hx, hb, hml, hr, hown, hts, hlk, hK, hD, hA, rfl⟩ := C
  intro H locs ls hM hS hL hP hSs hl
  refine lv_imul hx hb hd ?_
  rw [I3_mul]
  exact k H locs ls hM (ok_c (w3_R _) (ok_t (ok_t hS))) hL hP hSs hl
theorem q_iand (C : Cx l D cl tys N ad E own Ts cc nL R ret z G) {x y : Int} (hd : decode cc pc = .ok (.iand, 1)) (k : G μ (pc + 1) L (Vi (bAnd x y) :: S)) : G μ pc L (Vi y :: Vi x :: S) := by
  obtain ⟨p, e, s, m, args, below, meth, c, A, hx, hb, hml, hr, hown, hts, hlk, hK, hD, hA, rfl⟩ := C
  intro H locs ls hM hS hL hP hSs hl
  refine lv_iand hx hb hd ?_
  rw [show I3 x &&& I3 y = I3 (bAnd x y) from (I3_toInt _).symm]
  exact k H locs ls hM (ok_c (toInt_R _) (ok_t (ok_t hS))) hL hP hSs hl
theorem q_ior (C : Cx l D cl tys N ad E own Ts cc nL R ret z G) {x y : Int} (hd : decode cc pc = .ok (.ior, 1)) (k : G μ (pc + 1) L (Vi (bOr x y) :: S)) : G μ pc L (Vi y :: Vi x :: S) := by
  obtain ⟨p, e, s, m, args, below, meth, c, A, hx, hb, hml, hr, hown, hts, hlk, hK, hD, hA, rfl⟩ := C
  intro H locs ls hM hS hL hP hSs hl
  refine lv_ior hx hb hd ?_
  rw [show I3 x ||| I3 y = I3 (bOr x y) from (I3_toInt _).symm]
  exact k H locs ls hM (ok_c (toInt_R _) (ok_t (ok_t hS))) hL hP hSs hl
theorem q_ixor (C : Cx l D cl tys N ad E own Ts cc nL R ret z G) {x y : Int} (hd : decode cc pc = .ok (.ixor, 1)) (k : G μ (pc + 1) L (Vi (bXor x y) :: S)) : G μ pc L (Vi y :: Vi x :: S) := by
  obtain ⟨p, e, s, m, args, below, meth, c, A, hx, hb, hml, hr, hown, hts, hlk, hK, hD, hA, rfl⟩ := C
  intro H locs ls hM hS hL hP hSs hl
  refine lv_ixor hx hb hd ?_
  rw [show I3 x ^^^ I3 y = I3 (bXor x y) from (I3_toInt _).symm]
  exact k H locs ls hM (ok_c (toInt_R _) (ok_t (ok_t hS))) hL hP hSs hl
theorem q_ishl (C : Cx l D cl tys N ad E own Ts cc nL R ret z G) {x y : Int} (hd : decode cc pc = .ok (.ishl, 1)) (k : G μ (pc + 1) L (Vi (bShl x y) :: S)) : G μ pc L (Vi y :: Vi x :: S) := by
  obtain ⟨p, e, s, m, args, below, meth, c, A, hx, hb, hml, hr, hown, hts, hlk, hK, hD, hA, rfl⟩ := C
  intro H locs ls hM hS hL hP hSs hl
  refine lv_ishl hx hb hd ?_
  rw [show I3 x <<< (I3 y &&& 31) = I3 (bShl x y) from (I3_toInt _).symm]
  exact k H locs ls hM (ok_c (toInt_R _) (ok_t (ok_t hS))) hL hP hSs hl
theorem q_ishr (C : Cx l D cl tys N ad E own Ts cc nL R ret z G) {x y : Int} (hd : decode cc pc = .ok (.ishr, 1)) (k : G μ (pc + 1) L (Vi (bShr x y) :: S)) : G μ pc L (Vi y :: Vi x :: S) := by
  obtain ⟨p, e, s, m, args, below, meth, c, A, hx, hb, hml, hr, hown, hts, hlk, hK, hD, hA, rfl⟩ := C
  intro H locs ls hM hS hL hP hSs hl
  refine lv_ishr hx hb hd ?_
  rw [show I3 x >>> (I3 y &&& 31) = I3 (bShr x y) from (I3_toInt _).symm]
  exact k H locs ls hM (ok_c (toInt_R _) (ok_t (ok_t hS))) hL hP hSs hl
theorem q_iushr (C : Cx l D cl tys N ad E own Ts cc nL R ret z G) {x y : Int} (hd : decode cc pc = .ok (.iushr, 1)) (k : G μ (pc + 1) L (Vi (bUsh x y) :: S)) : G μ pc L (Vi y :: Vi x :: S) := by
  obtain ⟨p, e, s, m, args, below, meth, c, A, hx, hb, hml, hr, hown, hts, hlk, hK, hD, hA, rfl⟩ := C
  intro H locs ls hM hS hL hP hSs hl
  refine lv_iushr (v := I3 (bUsh x y)) hx hb hd (I3_toInt _).symm ?_
  exact k H locs ls hM (ok_c (toInt_R _) (ok_t (ok_t hS))) hL hP hSs hl
theorem q_ineg (C : Cx l D cl tys N ad E own Ts cc nL R ret z G) {x : Int} (hd : decode cc pc = .ok (.ineg, 1)) (k : G μ (pc + 1) L (Vi (w3 (-x)) :: S)) : G μ pc L (Vi x :: S) := by
  obtain ⟨p, e, s, m, args, below, meth, c, A, hx, hb, hml, hr, hown, hts, hlk, hK, hD, hA, rfl⟩ := C
  intro H locs ls hM hS hL hP hSs hl
  refine lv_ineg hx hb hd ?_
  rw [I3_neg]
  exact k H locs ls hM (ok_c (w3_R _) (ok_t hS)) hL hP hSs hl
theorem q_i2b (C : Cx l D cl tys N ad E own Ts cc nL R ret z G) {x : Int} (hd : decode cc pc = .ok (.i2b, 1)) (k : G μ (pc + 1) L (Vi (n8 x) :: S)) : G μ pc L (Vi x :: S) := by
  obtain ⟨p, e, s, m, args, below, meth, c, A, hx, hb, hml, hr, hown, hts, hlk, hK, hD, hA, rfl⟩ := C
  intro H locs ls hM hS hL hP hSs hl
  refine lv_i2b (v := I3 (n8 x)) hx hb hd (I3_toInt _).symm ?_
  exact k H locs ls hM (ok_c (toInt_R _) (ok_t hS)) hL hP hSs hl
theorem q_i2s (C : Cx l D cl tys N ad E own Ts cc nL R ret z G) {x : Int} (hd : decode cc pc = .ok (.i2s, 1)) (k : G μ (pc + 1) L (Vi (n16 x) :: S)) : G μ pc L (Vi x :: S) := by
  obtain ⟨p, e, s, m, args, below, meth, c, A, hx, hb, hml, hr, hown, hts, hlk, hK, hD, hA, rfl⟩ := C
  intro H locs ls hM hS hL hP hSs hl
  refine lv_i2s (v := I3 (n16 x)) hx hb hd (I3_toInt _).symm ?_
  exact k H locs ls hM (ok_c (toInt_R _) (ok_t hS)) hL hP hSs hl
theorem q_i2l (C : Cx l D cl tys N ad E own Ts cc nL R ret z G) {x : Int} (hd : decode cc pc = .ok (.i2l, 1)) (k : G μ (pc + 1) L (Vl x :: S)) : G μ pc L (Vi x :: S) := by
  obtain ⟨p, e, s, m, args, below, meth, c, A, hx, hb, hml, hr, hown, hts, hlk, hK, hD, hA, rfl⟩ := C
  intro H locs ls hM hS hL hP hSs hl
  have hxr : inR x := ok_h hS
  refine lv_i2l (v := J6 x) hx hb hd (by rw [← Int64.toInt_inj, Int32.toInt_toInt64, I3_t hxr, J6_t (inR_L hxr)]) ?_
  exact k H locs ls hM (ok_c (inR_L hxr) (ok_t hS)) hL hP hSs hl
theorem q_l2i (C : Cx l D cl tys N ad E own Ts cc nL R ret z G) {x : Int} (hd : decode cc pc = .ok (.l2i, 1)) (k : G μ (pc + 1) L (Vi (w3 x) :: S)) : G μ pc L (Vl x :: S) := by
  obtain ⟨p, e, s, m, args, below, meth, c, A, hx, hb, hml, hr, hown, hts, hlk, hK, hD, hA, rfl⟩ := C
  intro H locs ls hM hS hL hP hSs hl
  refine lv_l2i (v := I3 (w3 x)) hx hb hd (by rw [I3_w3]; exact Int64.toInt32_ofInt) ?_
  exact k H locs ls hM (ok_c (w3_R _) (ok_t hS)) hL hP hSs hl
theorem q_ladd (C : Cx l D cl tys N ad E own Ts cc nL R ret z G) {x y : Int}  (hd : decode cc pc = .ok (.ladd, 1)) (k : G μ (pc + 1) L (Vl (w6 (x + y)) :: S)) : G μ pc L (Vl y :: Vl x :: S) := by
  obtain ⟨p, e, s, m, args, below, meth, c, A, hx, hb, hml, hr, hown, hts, hlk, hK, hD, hA, rfl⟩ := C
  intro H locs ls hM hS hL hP hSs hl
  refine lv_ladd hx hb hd  ?_
  rw [J6_add]
  exact k H locs ls hM (ok_c (w6_L _) (ok_t (ok_t hS))) hL hP hSs hl
theorem q_lmul (C : Cx l D cl tys N ad E own Ts cc nL R ret z G) {x y : Int}  (hd : decode cc pc = .ok (.lmul, 1)) (k : G μ (pc + 1) L (Vl (w6 (x * y)) :: S)) : G μ pc L (Vl y :: Vl x :: S) := by
  obtain ⟨p, e, s, m, args, below, meth, c, A, hx, hb, hml, hr, hown, hts, hlk, hK, hD, hA, rfl⟩ := C
  intro H locs ls hM hS hL hP hSs hl
  refine lv_lmul hx hb hd  ?_
  rw [J6_mul]
  exact k H locs ls hM (ok_c (w6_L _) (ok_t (ok_t hS))) hL hP hSs hl
theorem q_ldiv (C : Cx l D cl tys N ad E own Ts cc nL R ret z G) {x y : Int} (hne : ¬ y = 0) (hd : decode cc pc = .ok (.ldiv, 1)) (k : G μ (pc + 1) L (Vl (lDiv x y) :: S)) : G μ pc L (Vl y :: Vl x :: S) := by
  obtain ⟨p, e, s, m, args, below, meth, c, A, hx, hb, hml, hr, hown, hts, hlk, hK, hD, hA, rfl⟩ := C
  intro H locs ls hM hS hL hP hSs hl
  refine lv_ldiv hx hb hd (fun q => hne ((J6_eq (ok_h hS) (show inL 0 from ⟨by decide, by decide⟩)).mp q)) ?_
  rw [show J6 x / J6 y = J6 (lDiv x y) from (J6_toInt _).symm]
  exact k H locs ls hM (ok_c (toInt_L _) (ok_t (ok_t hS))) hL hP hSs hl
theorem q_lrem (C : Cx l D cl tys N ad E own Ts cc nL R ret z G) {x y : Int} (hne : ¬ y = 0) (hd : decode cc pc = .ok (.lrem, 1)) (k : G μ (pc + 1) L (Vl (lRem x y) :: S)) : G μ pc L (Vl y :: Vl x :: S) := by
  obtain ⟨p, e, s, m, args, below, meth, c, A, hx, hb, hml, hr, hown, hts, hlk, hK, hD, hA, rfl⟩ := C
  intro H locs ls hM hS hL hP hSs hl
  refine lv_lrem hx hb hd (fun q => hne ((J6_eq (ok_h hS) (show inL 0 from ⟨by decide, by decide⟩)).mp q)) ?_
  rw [show J6 x - J6 x / J6 y * J6 y = J6 (lRem x y) from (J6_toInt _).symm]
  exact k H locs ls hM (ok_c (toInt_L _) (ok_t (ok_t hS))) hL hP hSs hl
theorem q_lcmp (C : Cx l D cl tys N ad E own Ts cc nL R ret z G) {x y : Int} (hd : decode cc pc = .ok (.lcmp, 1)) (k : G μ (pc + 1) L (Vi (cmp3 x y) :: S)) : G μ pc L (Vl y :: Vl x :: S) := by
  obtain ⟨p, e, s, m, args, below, meth, c, A, hx, hb, hml, hr, hown, hts, hlk, hK, hD, hA, rfl⟩ := C
  intro H locs ls hM hS hL hP hSs hl
  have hxr : inL x := ok_h (ok_t hS)
  have hyr : inL y := ok_h hS
  refine W.lcmp hx hb hd ?_
  rw [show lg_cmp (J6 x) (J6 y) = I3 (cmp3 x y) from by
    unfold lg_cmp cmp3
    simp only [gt_iff_lt, Int64.lt_iff_toInt_lt, J6_t hxr, J6_t hyr, J6_eq hxr hyr]
    split
    · rfl
    · split <;> rfl]
  exact k H locs ls hM (ok_c (cmp3_R x y) (ok_t (ok_t hS))) hL hP hSs hl
theorem q_dup (C : Cx l D cl tys N ad E own Ts cc nL R ret z G) {v : Vv} (hd : decode cc pc = .ok (.dup, 1)) (hc : catV v = 1) (k : G μ (pc + 1) L (v :: v :: S)) : G μ pc L (v :: S) := by
  obtain ⟨p, e, s, m, args, below, meth, c, A, hx, hb, hml, hr, hown, hts, hlk, hK, hD, hA, rfl⟩ := C
  intro H locs ls hM hS hL hP hSs hl
  refine lv_dup hx hb hd (by rw [cat_tv]; exact hc) ?_
  exact k H locs ls hM (ok_c (ok_h hS) hS) hL hP hSs hl
theorem q_pop (C : Cx l D cl tys N ad E own Ts cc nL R ret z G) {v : Vv} (hd : decode cc pc = .ok (.pop, 1)) (hc : catV v = 1) (k : G μ (pc + 1) L S) : G μ pc L (v :: S) := by
  obtain ⟨p, e, s, m, args, below, meth, c, A, hx, hb, hml, hr, hown, hts, hlk, hK, hD, hA, rfl⟩ := C
  intro H locs ls hM hS hL hP hSs hl
  refine lv_pop hx hb hd (by rw [cat_tv]; exact hc) ?_
  exact k H locs ls hM (ok_t hS) hL hP hSs hl
theorem q_dup2 (C : Cx l D cl tys N ad E own Ts cc nL R ret z G) {v w : Vv} (hd : decode cc pc = .ok (.dup2, 1)) (hc : catV v = 1) (hc2 : catV w = 1) (k : G μ (pc + 1) L (v :: w :: v :: w :: S)) : G μ pc L (v :: w :: S) := by
  obtain ⟨p, e, s, m, args, below, meth, c, A, hx, hb, hml, hr, hown, hts, hlk, hK, hD, hA, rfl⟩ := C
  intro H locs ls hM hS hL hP hSs hl
  refine lv_dup2_11 hx hb hd (by rw [cat_tv]; exact hc) (by rw [cat_tv]; exact hc2) ?_
  exact k H locs ls hM (ok_c (ok_h hS) (ok_c (ok_h (ok_t hS)) hS)) hL hP hSs hl
theorem q_goto (C : Cx l D cl tys N ad E own Ts cc nL R ret z G) {off : Int} {tgt : Nat} (hd : decode cc pc = .ok (.goto off, 3)) (ht : (pc : Int) + off = (tgt : Int)) (k : G μ tgt L S) : G μ pc L S := by
  obtain ⟨p, e, s, m, args, below, meth, c, A, hx, hb, hml, hr, hown, hts, hlk, hK, hD, hA, rfl⟩ := C
  intro H locs ls hM hS hL hP hSs hl
  refine lv_goto hx hb hd ht ?_
  exact k H locs ls hM hS hL hP hSs hl
theorem q_icmp_eq (C : Cx l D cl tys N ad E own Ts cc nL R ret z G) {x y : Int} {off : Int} {tgt : Nat} (hd : decode cc pc = .ok (.if_icmp .eq off, 3)) (ht : (pc : Int) + off = (tgt : Int)) (k1 : x = y → G μ tgt L S) (k2 : ¬ (x = y) → G μ (pc + 3) L S) : G μ pc L (Vi y :: Vi x :: S) := by
  obtain ⟨p, e, s, m, args, below, meth, c, A, hx, hb, hml, hr, hown, hts, hlk, hK, hD, hA, rfl⟩ := C
  intro H locs ls hM hS hL hP hSs hl
  have hxr : inR x := ok_h (ok_t hS)
  have hyr : inR y := ok_h hS
  refine lv_icmp_eq hx hb hd ht (fun q => k1 ((I3_eq hxr hyr).mp q) H locs ls hM (ok_t (ok_t hS)) hL hP hSs hl) (fun q => k2 (fun r => q ((I3_eq hxr hyr).mpr r)) H locs ls hM (ok_t (ok_t hS)) hL hP hSs hl)
theorem q_if_eq (C : Cx l D cl tys N ad E own Ts cc nL R ret z G) {x : Int} {off : Int} {tgt : Nat} (hd : decode cc pc = .ok (.ifCond .eq off, 3)) (ht : (pc : Int) + off = (tgt : Int)) (k1 : x = 0 → G μ tgt L S) (k2 : ¬ (x = 0) → G μ (pc + 3) L S) : G μ pc L (Vi x :: S) := by
  obtain ⟨p, e, s, m, args, below, meth, c, A, hx, hb, hml, hr, hown, hts, hlk, hK, hD, hA, rfl⟩ := C
  intro H locs ls hM hS hL hP hSs hl
  have hxr : inR x := ok_h hS
  have hyr : inR 0 := inR_0
  refine lv_if_eq hx hb hd ht (fun q => k1 ((I3_eq hxr hyr).mp q) H locs ls hM (ok_t hS) hL hP hSs hl) (fun q => k2 (fun r => q ((I3_eq hxr hyr).mpr r)) H locs ls hM (ok_t hS) hL hP hSs hl)
theorem q_icmp_ne (C : Cx l D cl tys N ad E own Ts cc nL R ret z G) {x y : Int} {off : Int} {tgt : Nat} (hd : decode cc pc = .ok (.if_icmp .ne off, 3)) (ht : (pc : Int) + off = (tgt : Int)) (k1 : ¬ x = y → G μ tgt L S) (k2 : x = y → G μ (pc + 3) L S) : G μ pc L (Vi y :: Vi x :: S) := by
  obtain ⟨p, e, s, m, args, below, meth, c, A, hx, hb, hml, hr, hown, hts, hlk, hK, hD, hA, rfl⟩ := C
  intro H locs ls hM hS hL hP hSs hl
  have hxr : inR x := ok_h (ok_t hS)
  have hyr : inR y := ok_h hS
  refine lv_icmp_ne hx hb hd ht (fun q => k1 (fun r => q ((I3_eq hxr hyr).mpr r)) H locs ls hM (ok_t (ok_t hS)) hL hP hSs hl) (fun q => k2 ((I3_eq hxr hyr).mp q) H locs ls hM (ok_t (ok_t hS)) hL hP hSs hl)
theorem q_if_ne (C : Cx l D cl tys N ad E own Ts cc nL R ret z G) {x : Int} {off : Int} {tgt : Nat} (hd : decode cc pc = .ok (.ifCond .ne off, 3)) (ht : (pc : Int) + off = (tgt : Int)) (k1 : ¬ x = 0 → G μ tgt L S) (k2 : x = 0 → G μ (pc + 3) L S) : G μ pc L (Vi x :: S) := by
  obtain ⟨p, e, s, m, args, below, meth, c, A, hx, hb, hml, hr, hown, hts, hlk, hK, hD, hA, rfl⟩ := C
  intro H locs ls hM hS hL hP hSs hl
  have hxr : inR x := ok_h hS
  have hyr : inR 0 := inR_0
  refine lv_if_ne hx hb hd ht (fun q => k1 (fun r => q ((I3_eq hxr hyr).mpr r)) H locs ls hM (ok_t hS) hL hP hSs hl) (fun q => k2 ((I3_eq hxr hyr).mp q) H locs ls hM (ok_t hS) hL hP hSs hl)
theorem q_icmp_lt (C : Cx l D cl tys N ad E own Ts cc nL R ret z G) {x y : Int} {off : Int} {tgt : Nat} (hd : decode cc pc = .ok (.if_icmp .lt off, 3)) (ht : (pc : Int) + off = (tgt : Int)) (k1 : x < y → G μ tgt L S) (k2 : ¬ (x < y) → G μ (pc + 3) L S) : G μ pc L (Vi y :: Vi x :: S) := by
  obtain ⟨p, e, s, m, args, below, meth, c, A, hx, hb, hml, hr, hown, hts, hlk, hK, hD, hA, rfl⟩ := C
  intro H locs ls hM hS hL hP hSs hl
  have hxr : inR x := ok_h (ok_t hS)
  have hyr : inR y := ok_h hS
  refine lv_icmp_lt hx hb hd ht (fun q => k1 ((I3_lt hxr hyr).mp q) H locs ls hM (ok_t (ok_t hS)) hL hP hSs hl) (fun q => k2 (fun r => q ((I3_lt hxr hyr).mpr r)) H locs ls hM (ok_t (ok_t hS)) hL hP hSs hl)
theorem q_if_lt (C : Cx l D cl tys N ad E own Ts cc nL R ret z G) {x : Int} {off : Int} {tgt : Nat} (hd : decode cc pc = .ok (.ifCond .lt off, 3)) (ht : (pc : Int) + off = (tgt : Int)) (k1 : x < 0 → G μ tgt L S) (k2 : ¬ (x < 0) → G μ (pc + 3) L S) : G μ pc L (Vi x :: S) := by
  obtain ⟨p, e, s, m, args, below, meth, c, A, hx, hb, hml, hr, hown, hts, hlk, hK, hD, hA, rfl⟩ := C
  intro H locs ls hM hS hL hP hSs hl
  have hxr : inR x := ok_h hS
  have hyr : inR 0 := inR_0
  refine lv_if_lt hx hb hd ht (fun q => k1 ((I3_lt hxr hyr).mp q) H locs ls hM (ok_t hS) hL hP hSs hl) (fun q => k2 (fun r => q ((I3_lt hxr hyr).mpr r)) H locs ls hM (ok_t hS) hL hP hSs hl)
theorem q_icmp_ge (C : Cx l D cl tys N ad E own Ts cc nL R ret z G) {x y : Int} {off : Int} {tgt : Nat} (hd : decode cc pc = .ok (.if_icmp .ge off, 3)) (ht : (pc : Int) + off = (tgt : Int)) (k1 : y ≤ x → G μ tgt L S) (k2 : ¬ (y ≤ x) → G μ (pc + 3) L S) : G μ pc L (Vi y :: Vi x :: S) := by
  obtain ⟨p, e, s, m, args, below, meth, c, A, hx, hb, hml, hr, hown, hts, hlk, hK, hD, hA, rfl⟩ := C
  intro H locs ls hM hS hL hP hSs hl
  have hxr : inR x := ok_h (ok_t hS)
  have hyr : inR y := ok_h hS
  refine lv_icmp_ge hx hb hd ht (fun q => k1 ((I3_le hyr hxr).mp q) H locs ls hM (ok_t (ok_t hS)) hL hP hSs hl) (fun q => k2 (fun r => q ((I3_le hyr hxr).mpr r)) H locs ls hM (ok_t (ok_t hS)) hL hP hSs hl)
theorem q_if_ge (C : Cx l D cl tys N ad E own Ts cc nL R ret z G) {x : Int} {off : Int} {tgt : Nat} (hd : decode cc pc = .ok (.ifCond .ge off, 3)) (ht : (pc : Int) + off = (tgt : Int)) (k1 : 0 ≤ x → G μ tgt L S) (k2 : ¬ (0 ≤ x) → G μ (pc + 3) L S) : G μ pc L (Vi x :: S) := by
  obtain ⟨p, e, s, m, args, below, meth, c, A, hx, hb, hml, hr, hown, hts, hlk, hK, hD, hA, rfl⟩ := C
  intro H locs ls hM hS hL hP hSs hl
  have hxr : inR x := ok_h hS
  have hyr : inR 0 := inR_0
  refine lv_if_ge hx hb hd ht (fun q => k1 ((I3_le hyr hxr).mp q) H locs ls hM (ok_t hS) hL hP hSs hl) (fun q => k2 (fun r => q ((I3_le hyr hxr).mpr r)) H locs ls hM (ok_t hS) hL hP hSs hl)
theorem q_icmp_gt (C : Cx l D cl tys N ad E own Ts cc nL R ret z G) {x y : Int} {off : Int} {tgt : Nat} (hd : decode cc pc = .ok (.if_icmp .gt off, 3)) (ht : (pc : Int) + off = (tgt : Int)) (k1 : y < x → G μ tgt L S) (k2 : ¬ (y < x) → G μ (pc + 3) L S) : G μ pc L (Vi y :: Vi x :: S) := by
  obtain ⟨p, e, s, m, args, below, meth, c, A, hx, hb, hml, hr, hown, hts, hlk, hK, hD, hA, rfl⟩ := C
  intro H locs ls hM hS hL hP hSs hl
  have hxr : inR x := ok_h (ok_t hS)
  have hyr : inR y := ok_h hS
  refine lv_icmp_gt hx hb hd ht (fun q => k1 ((I3_lt hyr hxr).mp q) H locs ls hM (ok_t (ok_t hS)) hL hP hSs hl) (fun q => k2 (fun r => q ((I3_lt hyr hxr).mpr r)) H locs ls hM (ok_t (ok_t hS)) hL hP hSs hl)
theorem q_if_gt (C : Cx l D cl tys N ad E own Ts cc nL R ret z G) {x : Int} {off : Int} {tgt : Nat} (hd : decode cc pc = .ok (.ifCond .gt off, 3)) (ht : (pc : Int) + off = (tgt : Int)) (k1 : 0 < x → G μ tgt L S) (k2 : ¬ (0 < x) → G μ (pc + 3) L S) : G μ pc L (Vi x :: S) := by
  obtain ⟨p, e, s, m, args, below, meth, c, A, hx, hb, hml, hr, hown, hts, hlk, hK, hD, hA, rfl⟩ := C
  intro H locs ls hM hS hL hP hSs hl
  have hxr : inR x := ok_h hS
  have hyr : inR 0 := inR_0
  refine lv_if_gt hx hb hd ht (fun q => k1 ((I3_lt hyr hxr).mp q) H locs ls hM (ok_t hS) hL hP hSs hl) (fun q => k2 (fun r => q ((I3_lt hyr hxr).mpr r)) H locs ls hM (ok_t hS) hL hP hSs hl)
theorem q_icmp_le (C : Cx l D cl tys N ad E own Ts cc nL R ret z G) {x y : Int} {off : Int} {tgt : Nat} (hd : decode cc pc = .ok (.if_icmp .le off, 3)) (ht : (pc : Int) + off = (tgt : Int)) (k1 : x ≤ y → G μ tgt L S) (k2 : ¬ (x ≤ y) → G μ (pc + 3) L S) : G μ pc L (Vi y :: Vi x :: S) := by
  obtain ⟨p, e, s, m, args, below, meth, c, A, hx, hb, hml, hr, hown, hts, hlk, hK, hD, hA, rfl⟩ := C
  intro H locs ls hM hS hL hP hSs hl
  have hxr : inR x := ok_h (ok_t hS)
  have hyr : inR y := ok_h hS
  refine lv_icmp_le hx hb hd ht (fun q => k1 ((I3_le hxr hyr).mp q) H locs ls hM (ok_t (ok_t hS)) hL hP hSs hl) (fun q => k2 (fun r => q ((I3_le hxr hyr).mpr r)) H locs ls hM (ok_t (ok_t hS)) hL hP hSs hl)
theorem q_if_le (C : Cx l D cl tys N ad E own Ts cc nL R ret z G) {x : Int} {off : Int} {tgt : Nat} (hd : decode cc pc = .ok (.ifCond .le off, 3)) (ht : (pc : Int) + off = (tgt : Int)) (k1 : x ≤ 0 → G μ tgt L S) (k2 : ¬ (x ≤ 0) → G μ (pc + 3) L S) : G μ pc L (Vi x :: S) := by
  obtain ⟨p, e, s, m, args, below, meth, c, A, hx, hb, hml, hr, hown, hts, hlk, hK, hD, hA, rfl⟩ := C
  intro H locs ls hM hS hL hP hSs hl
  have hxr : inR x := ok_h hS
  have hyr : inR 0 := inR_0
  refine lv_if_le hx hb hd ht (fun q => k1 ((I3_le hxr hyr).mp q) H locs ls hM (ok_t hS) hL hP hSs hl) (fun q => k2 (fun r => q ((I3_le hxr hyr).mpr r)) H locs ls hM (ok_t hS) hL hP hSs hl)
theorem q_tab_in (C : Cx l D cl tys N ad E own Ts cc nL R ret z G) {dflt lo hi : Int} {offs : Array Int} {len : Nat} {x off : Int} {tgt : Nat} (hd : decode cc pc = .ok (.tableswitch dflt lo hi offs, len)) (h1 : lo ≤ x) (h2 : x ≤ hi) (ho : offs[(x - lo).toNat]? = some off) (ht : (pc : Int) + off = (tgt : Int)) (k : G μ tgt L S) : G μ pc L (Vi x :: S) := by
  obtain ⟨p, e, s, m, args, below, meth, c, A, hx, hb, hml, hr, hown, hts, hlk, hK, hD, hA, rfl⟩ := C
  intro H locs ls hM hS hL hP hSs hl
  have hxr : inR x := ok_h hS
  refine lv_tableIn (off := off) hx hb hd (by rw [I3_t hxr]; omega) (by rw [I3_t hxr]; omega) (by rw [I3_t hxr]; exact ho) ht ?_
  exact k H locs ls hM (ok_t hS) hL hP hSs hl
theorem q_tab_out (C : Cx l D cl tys N ad E own Ts cc nL R ret z G) {dflt lo hi : Int} {offs : Array Int} {len : Nat} {x : Int} {tgt : Nat} (hd : decode cc pc = .ok (.tableswitch dflt lo hi offs, len)) (h : x < lo ∨ hi < x) (ht : (pc : Int) + dflt = (tgt : Int)) (k : G μ tgt L S) : G μ pc L (Vi x :: S) := by
  obtain ⟨p, e, s, m, args, below, meth, c, A, hx, hb, hml, hr, hown, hts, hlk, hK, hD, hA, rfl⟩ := C
  intro H locs ls hM hS hL hP hSs hl
  have hxr : inR x := ok_h hS
  refine lv_tableOut hx hb hd (by rw [I3_t hxr]; exact h) ht ?_
  exact k H locs ls hM (ok_t hS) hL hP hSs hl
theorem q_lookup (C : Cx l D cl tys N ad E own Ts cc nL R ret z G) {dflt : Int} {ps : Array (Int × Int)} {len : Nat} {x off : Int} {tgt : Nat} (hd : decode cc pc = .ok (.lookupswitch dflt ps, len)) (hp : (ps.toList.zip (ps.toList.drop 1)).all (fun (a, next) => a.1 < next.1) = true) (ho : Op.lookupswitch.offset ps.toList dflt x = off) (ht : (pc : Int) + off = (tgt : Int)) (k : G μ tgt L S) : G μ pc L (Vi x :: S) := by
  obtain ⟨p, e, s, m, args, below, meth, c, A, hx, hb, hml, hr, hown, hts, hlk, hK, hD, hA, rfl⟩ := C
  intro H locs ls hM hS hL hP hSs hl
  have hxr : inR x := ok_h hS
  refine lv_lookup (off := off) hx hb hd hp (by rw [I3_t hxr]; exact ho) ht ?_
  exact k H locs ls hM (ok_t hS) hL hP hSs hl
theorem q_sub (C : Cx l D cl tys N ad E own Ts cc nL R ret z G) (is : List Nat) (L' : List (Nat × Vv)) (h : is.filterMap (fun i => L[i]?) = L') (k : G μ pc L' S) : G μ pc L S := by
  obtain ⟨p, e, s, m, args, below, meth, c, A, hx, hb, hml, hr, hown, hts, hlk, hK, hD, hA, rfl⟩ := C
  intro H locs ls hM hS hL hP hSs hl
  have hin : ∀ q ∈ L', q ∈ L := fun q hq => by
    rw [← h] at hq
    obtain ⟨i, -, hi⟩ := List.mem_filterMap.mp hq
    exact List.mem_of_getElem? hi
  refine k H locs ls hM hS (fun q hq => hL q (hin q hq)) hP hSs ⟨hl.1, hl.2.1, fun q hq => ?_⟩
  obtain ⟨r, hr1, rfl⟩ := List.mem_map.mp hq
  exact hl.2.2 _ (List.mem_map_of_mem (hin r hr1))
/-- what is known of an int on top of the stack -/
theorem q_top (C : Cx l D cl tys N ad E own Ts cc nL R ret z G) {x : Int} (k : inR x → G μ pc L (Vi x :: S)) : G μ pc L (Vi x :: S) := by
  obtain ⟨p, e, s, m, args, below, meth, c, A, hx, hb, hml, hr, hown, hts, hlk, hK, hD, hA, rfl⟩ := C
  intro H locs ls hM hS hL hP hSs hl
  exact k (ok_h hS) H locs ls hM hS hL hP hSs hl
theorem q_okM (C : Cx l D cl tys N ad E own Ts cc nL R ret z G) (k : okM μ → G μ pc L S) : G μ pc L S := by
  obtain ⟨p, e, s, m, args, below, meth, c, A, hx, hb, hml, hr, hown, hts, hlk, hK, hD, hA, rfl⟩ := C
  intro H locs ls hM hS hL hP hSs hl
  exact k hM H locs ls hM hS hL hP hSs hl
theorem q_okS (C : Cx l D cl tys N ad E own Ts cc nL R ret z G) (k : (∀ v ∈ S, okV v) → (∀ q ∈ L, okV q.2) → G μ pc L S) : G μ pc L S := by
  obtain ⟨p, e, s, m, args, below, meth, c, A, hx, hb, hml, hr, hown, hts, hlk, hK, hD, hA, rfl⟩ := C
  intro H locs ls hM hS hL hP hSs hl
  exact k hS hL H locs ls hM hS hL hP hSs hl
theorem q_iret (C : Cx l D cl tys N ad E own Ts cc nL R (some .int) z G) {x : Int} (hd : decode cc pc = .ok (.ireturn, 1)) (hz : (x, μ) = z) : G μ pc L [Vi x] := by
  obtain ⟨p, e, s, m, args, below, meth, c, A, hx, hb, hml, hr, hown, hts, hlk, hK, hD, hA, rfl⟩ := C
  intro H locs ls hM hS hL hP hSs hl
  subst hz
  exact W.iret hx hb hr (fun t ht hW => ⟨⟨I3 x, (), rfl, ⟨rfl, ok_h hS, hM⟩, by show va_P D cl (XX N ad E μ) t.heap; rw [ht]; exact hP⟩, hSs.F ht⟩) hSs.2.2 hd hlk
theorem q_zret (C : Cx l D cl tys N ad E own Ts cc nL R (some .boolean) z G) {x : Int} (h01 : x = 0 ∨ x = 1) (hd : decode cc pc = .ok (.ireturn, 1)) (hz : (x, μ) = z) : G μ pc L [Vi x] := by
  obtain ⟨p, e, s, m, args, below, meth, c, A, hx, hb, hml, hr, hown, hts, hlk, hK, hD, hA, rfl⟩ := C
  intro H locs ls hM hS hL hP hSs hl
  subst hz
  exact W.zret hx hb hr (by rcases h01 with rfl | rfl <;> rfl) (fun t ht hW => ⟨⟨I3 x, (), rfl, ⟨rfl, h01, hM⟩, by show va_P D cl (XX N ad E μ) t.heap; rw [ht]; exact hP⟩, hSs.F ht⟩) hSs.2.2 hd hlk
theorem q_lret (C : Cx l D cl tys N ad E own Ts cc nL R (some .long) z G) {x : Int} (hd : decode cc pc = .ok (.lreturn, 1)) (hz : (x, μ) = z) : G μ pc L [Vl x] := by
  obtain ⟨p, e, s, m, args, below, meth, c, A, hx, hb, hml, hr, hown, hts, hlk, hK, hD, hA, rfl⟩ := C
  intro H locs ls hM hS hL hP hSs hl
  subst hz
  exact W.lret hx hb hr (fun t ht hW => ⟨⟨J6 x, (), rfl, ⟨rfl, ok_h hS, hM⟩, by show va_P D cl (XX N ad E μ) t.heap; rw [ht]; exact hP⟩, hSs.F ht⟩) hSs.2.2 hd hlk
theorem q_vret (C : Cx l D cl tys N ad E own Ts cc nL R none z G) (hd : decode cc pc = .ok (.return_, 1)) (hz : (0, μ) = z) : G μ pc L [] := by
  obtain ⟨p, e, s, m, args, below, meth, c, A, hx, hb, hml, hr, hown, hts, hlk, hK, hD, hA, rfl⟩ := C
  intro H locs ls hM hS hL hP hSs hl
  subst hz
  exact W.vret hx hb hr (fun t ht hW => ⟨⟨(), rfl, hM, by show va_P D cl (XX N ad E μ) t.heap; rw [ht]; exact hP⟩, hSs.F ht⟩) hSs.2.2 hd hlk
end RQ
end
section
/-! THE HEAP'S ROWS AND THE CALLS, over the pure level. -/
def fv (ad : Nat → Nat) (μ : Mm) (f : (Nat × Int) ⊕ Nat) : Value := match f with
  | .inl q => .int (I3 (μ q.1 q.2))
  | .inr k => .ref (ad k)
/-- cell k is an object of class number ci, with these fields -/
def isO (N : Nat) (ad : Nat → Nat) (E : Mm → Nat → va_E) (k ci : Nat) (F : List ((Nat × Int) ⊕ Nat)) : Prop :=
  k < N ∧ (∀ μ, E μ k = .inr (ci, F.map (fv ad μ))) ∧ F.Nodup ∧ ∀ (μ : Mm) (g : Nat) (o v : Int), Sum.inl (g, o) ∈ F → ∀ j, j < N → j ≠ k → E (sM μ g o v) j = E μ j
/-- cell k is an array of ints, the n places from off on of the group g -/
def isA (N : Nat) (E : Mm → Nat → va_E) (k : Nat) (cA : ClassId) (g : Nat) (off : Int) (n : Nat) : Prop :=
  k < N ∧ (∀ μ, E μ k = .inl (cA, n, .inl (fun j => I3 (μ g (off + (j : Int)))))) ∧ ∀ (μ : Mm) (o v : Int), off ≤ o → o < off + n → ∀ j, j < N → j ≠ k → E (sM μ g o v) j = E μ j
/-- cell k is an array of n references, place j of it cell f j -/
def isQ (N : Nat) (ad : Nat → Nat) (E : Mm → Nat → va_E) (k : Nat) (cA : ClassId) (n : Nat) (f : Nat → Nat) : Prop :=
  k < N ∧ ∀ μ, E μ k = .inl (cA, n, .inr (.inr (.inr (.inr (fun j => some (ad (f j)))))))
theorem fv_set {ad : Nat → Nat} {μ : Mm} {F : List ((Nat × Int) ⊕ Nat)} (hF : F.Nodup) {i g : Nat} {o v : Int} (h : F[i]? = some (.inl (g, o))) : F.map (fv ad (sM μ g o v)) = (F.map (fv ad μ)).set i (.int (I3 v)) := by
  apply List.ext_getElem?
  intro j
  rw [List.getElem?_set, List.getElem?_map, List.getElem?_map, List.length_map]
  have hi : i < F.length := (List.getElem?_eq_some_iff.mp h).1
  by_cases hij : i = j
  · subst hij
    rw [if_pos rfl, if_pos hi, h]
    show some (Value.int (I3 (sM μ g o v g o))) = _
    rw [sM_s]
  · rw [if_neg hij]
    cases hj : F[j]? with
    | none => rfl
    | some q =>
      show some (fv ad (sM μ g o v) q) = some (fv ad μ q)
      rcases q with ⟨g', o'⟩ | k
      · show some (Value.int (I3 (sM μ g o v g' o'))) = some (Value.int (I3 (μ g' o')))
        rw [sM_n]
        rintro ⟨rfl, rfl⟩
        have hj' : j < F.length := (List.getElem?_eq_some_iff.mp hj).1
        have := (List.getElem_inj (h₀ := hi) (h₁ := hj') hF).mp (by
          have h1 := (List.getElem?_eq_some_iff.mp h).2
          have h2 := (List.getElem?_eq_some_iff.mp hj).2
          rw [h1, h2])
        exact hij this
      · rfl
theorem I3_in {i : Int} {n : Nat} (hr : inR i) (h0 : 0 ≤ i) (h1 : i < n) : vp_in (I3 i) n := vp_in_iff.mpr ⟨by rw [I3_t hr]; exact h0, by rw [I3_t hr]; exact h1⟩
theorem I3_cl {i : Int} (hr : inR i) (h0 : 0 ≤ i) : (((I3 i).toNatClampNeg : Nat) : Int) = i := by
  show (((I3 i).toInt.toNat : Nat) : Int) = i
  rw [I3_t hr]
  omega
section RH
variable {l : Launch} {D : va_G} {cl : List vw_C} {tys : List (ClassId × FieldType)} {N : Nat} {ad : Nat → Nat} {E : Mm → Nat → va_E} {own : String} {Ts : List Cond} {cc : ByteArray} {nL : Nat} {R : Room} {ret : Option FieldType} {z : Int × Mm} {G : Mm → Nat → List (Nat × Vv) → List Vv → Prop} {μ : Mm} {pc : Nat} {L : List (Nat × Vv)} {S : List Vv}
theorem q_get {ci k : Nat} {F : List ((Nat × Int) ⊕ Nat)} (hO : isO N ad E k ci F) (C : Cx l D cl tys N ad E own Ts cc nL R ret z G) {index g i : Nat} {o : Int} {Cn ref nm ds : String} {T : u_T} {Nf : Nat} (hin : ∀ w ∈ u_ws Cn T Nf, w ∈ Ts) (hc : cl[ci]? = some (Cn, T, Nf)) (hi : F[i]? = some (.inl (g, o))) (hN : i < Nf) (hT : T i = (ref, nm, ds, false)) (hw : Cond.fieldLink own index ref nm ds ∈ Ts) (hd : decode cc pc = .ok (.getfield index, 3)) (kk : G μ (pc + 3) L (Vi (μ g o) :: S)) : G μ pc L (Vr k :: S) := by
  obtain ⟨p, e, s, m, args, below, meth, c, A, hx, hb, hml, hr, hown, hts, hlk, hK, hD, hA, rfl⟩ := C
  intro H locs ls hM hS hL hP hSs hl
  obtain ⟨h1, h2, h3, h4⟩ := hO
  refine va_get (D := D) (ci := ci) (v := .int (I3 (μ g o))) (C := Cn) (T := T) (N := Nf) hx hb hts hin hown hK hP k (XX_get h1 |>.trans (congrArg (fun x => some (ad k, x)) (h2 μ))) hc i hN (by rw [hT]; exact hts _ hw) (fun x h9 => by rw [hT] at h9 ⊢; exact h9) (by rw [List.getElem?_map, hi]; rfl) hd ?_
  exact kk H locs ls hM (ok_c (hM g o) (ok_t hS)) hL hP hSs hl
theorem q_getR {ci k : Nat} {F : List ((Nat × Int) ⊕ Nat)} (hO : isO N ad E k ci F) (C : Cx l D cl tys N ad E own Ts cc nL R ret z G) {index k' i : Nat} {Cn ref nm ds : String} {b : Bool} {T : u_T} {Nf : Nat} (hin : ∀ w ∈ u_ws Cn T Nf, w ∈ Ts) (hc : cl[ci]? = some (Cn, T, Nf)) (hi : F[i]? = some (.inr k')) (hN : i < Nf) (hT : T i = (ref, nm, ds, b)) (hw : Cond.fieldLink own index ref nm ds ∈ Ts) (hd : decode cc pc = .ok (.getfield index, 3)) (kk : G μ (pc + 3) L (Vr k' :: S)) : G μ pc L (Vr k :: S) := by
  obtain ⟨p, e, s, m, args, below, meth, c, A, hx, hb, hml, hr, hown, hts, hlk, hK, hD, hA, rfl⟩ := C
  intro H locs ls hM hS hL hP hSs hl
  obtain ⟨h1, h2, h3, h4⟩ := hO
  refine va_get (D := D) (ci := ci) (v := .ref (ad k')) (C := Cn) (T := T) (N := Nf) hx hb hts hin hown hK hP k (XX_get h1 |>.trans (congrArg (fun x => some (ad k, x)) (h2 μ))) hc i hN (by rw [hT]; exact hts _ hw) (fun x h9 => by rw [hT] at h9 ⊢; exact h9) (by rw [List.getElem?_map, hi]; rfl) hd ?_
  exact kk H locs ls hM (ok_c trivial (ok_t hS)) hL hP hSs hl
theorem q_put {ci k : Nat} {F : List ((Nat × Int) ⊕ Nat)} (hO : isO N ad E k ci F) (C : Cx l D cl tys N ad E own Ts cc nL R ret z G) {index g i : Nat} {o x : Int} {μ' : Mm} (hμ : μ' = sM μ g o x) {Cn ref nm : String} {T : u_T} {ty0 : Nat → FieldType} {Nf : Nat} (hin : ∀ w ∈ u_ws Cn T Nf, w ∈ Ts) (hty : ∀ k, k < Nf → parseFieldDescriptor (T k).2.2.1 = some (ty0 k)) (hnm : ∀ a, a < Nf → ∀ b, b < Nf → a ≠ b → (T a).2.1 ≠ (T b).2.1) (hc : cl[ci]? = some (Cn, T, Nf)) (hi : F[i]? = some (.inl (g, o))) (hN : i < Nf) (hT : T i = (ref, nm, "I", false)) (hw : Cond.fieldLink own index ref nm "I" ∈ Ts) (hd : decode cc pc = .ok (.putfield index, 3)) (kk : G μ' (pc + 3) L S) : G μ pc L (Vi x :: Vr k :: S) := by
  obtain ⟨p, e, s, m, args, below, meth, c, A, hx, hb, hml, hr, hown, hts, hlk, hK, hD, hA, rfl⟩ := C
  intro H locs ls hM hS hL hP hSs hl
  obtain ⟨h1, h2, h3, h4⟩ := hO
  subst hμ
  have hfl : i < F.length := (List.getElem?_eq_some_iff.mp hi).1
  refine va_put (D := D) (ci := ci) (v := .int (I3 x)) (ty := .int) (C := Cn) (T := T) (N := Nf) hx hb hts hin ty0 hty hnm hown hK hP (hD μ) hSs k (XX_get h1 |>.trans (congrArg (fun x => some (ad k, x)) (h2 μ))) hc i hN (by rw [hT]; exact hts _ hw) (fun x h9 => by rw [hT] at h9 ⊢; exact h9) (by rw [hT]) (by rw [hT]; show parseFieldDescriptor "I" = some .int; decide +kernel) rfl rfl (by rw [List.length_map]; exact hfl) hd (fun H1 locs1 hP1 hD1 hS1 => ?_)
  rw [XX_set (μ' := sM μ g o x) (by rw [h2, fv_set h3 hi]) (fun j hj hjk => h4 μ g o x (List.mem_of_getElem? hi) j hj hjk)] at hP1
  exact kk H1 locs1 ls (sM_ok hM (ok_h hS)) (ok_t (ok_t hS)) hL hP1 hS1 hl
theorem q_iald {k : Nat} {cA : ClassId} {g : Nat} {off : Int} {n : Nat} (hO : isA N E k cA g off n) (C : Cx l D cl tys N ad E own Ts cc nL R ret z G) (t0 : Nat) (ht : tys[t0]? = some (cA, .int)) {i : Int} (h0 : 0 ≤ i ∧ i < n) (hd : decode cc pc = .ok (.iaload, 1)) (kk : G μ (pc + 1) L (Vi (μ g (off + i)) :: S)) : G μ pc L (Vi i :: Vr k :: S) := by
  obtain ⟨p, e, s, m, args, below, meth, c, A, hx, hb, hml, hr, hown, hts, hlk, hK, hD, hA, rfl⟩ := C
  intro H locs ls hM hS hL hP hSs hl
  obtain ⟨h1, h2, h3⟩ := hO
  have hir : inR i := ok_h hS
  refine va_iald hx hb hK hP k t0 (XX_get h1 |>.trans (congrArg (fun x => some (ad k, x)) (h2 μ))) ht (I3_in hir h0.1 h0.2) hd ?_
  rw [I3_cl hir h0.1]
  exact kk H locs ls hM (ok_c (hM _ _) (ok_t (ok_t hS))) hL hP hSs hl
theorem q_zald {k : Nat} {cA : ClassId} {g : Nat} {off : Int} {n : Nat} (hO : isA N E k cA g off n) (C : Cx l D cl tys N ad E own Ts cc nL R ret z G) (t0 : Nat) (ht : tys[t0]? = some (cA, .boolean)) {i : Int} (h0 : 0 ≤ i ∧ i < n) (hd : decode cc pc = .ok (.baload, 1)) (kk : G μ (pc + 1) L (Vi (μ g (off + i)) :: S)) : G μ pc L (Vi i :: Vr k :: S) := by
  obtain ⟨p, e, s, m, args, below, meth, c, A, hx, hb, hml, hr, hown, hts, hlk, hK, hD, hA, rfl⟩ := C
  intro H locs ls hM hS hL hP hSs hl
  obtain ⟨h1, h2, h3⟩ := hO
  have hir : inR i := ok_h hS
  refine va_zald hx hb hK hP k t0 (XX_get h1 |>.trans (congrArg (fun x => some (ad k, x)) (h2 μ))) ht (I3_in hir h0.1 h0.2) hd ?_
  rw [I3_cl hir h0.1]
  exact kk H locs ls hM (ok_c (hM _ _) (ok_t (ok_t hS))) hL hP hSs hl
theorem upd_sM {μ : Mm} {g : Nat} {off i x : Int} (hir : inR i) (h0 : 0 ≤ i) : upd (fun j => I3 (μ g (off + (j : Int)))) (I3 i).toNatClampNeg (I3 x) = fun (j : Nat) => I3 (sM μ g (off + i) x g (off + (j : Int))) := by
  have hcl := I3_cl hir h0
  funext j
  unfold upd
  by_cases hj : j = (I3 i).toNatClampNeg
  · subst hj
    rw [if_pos rfl, hcl, sM_s]
  · rw [if_neg hj, sM_n]
    rintro ⟨-, h2⟩
    exact hj (by omega)
theorem q_iast {k : Nat} {cA : ClassId} {g : Nat} {off : Int} {n : Nat} (hO : isA N E k cA g off n) (C : Cx l D cl tys N ad E own Ts cc nL R ret z G) (t0 : Nat) (ht : tys[t0]? = some (cA, .int)) {i x : Int} (h0 : 0 ≤ i ∧ i < n) {μ' : Mm} (hμ : μ' = sM μ g (off + i) x) (hd : decode cc pc = .ok (.iastore, 1)) (kk : G μ' (pc + 1) L S) : G μ pc L (Vi x :: Vi i :: Vr k :: S) := by
  obtain ⟨p, e, s, m, args, below, meth, c, A, hx, hb, hml, hr, hown, hts, hlk, hK, hD, hA, rfl⟩ := C
  intro H locs ls hM hS hL hP hSs hl
  obtain ⟨h1, h2, h3⟩ := hO
  have hir : inR i := ok_h (ok_t hS)
  subst hμ
  refine va_iast hx hb hK hP (hD μ) hSs k t0 (XX_get h1 |>.trans (congrArg (fun x => some (ad k, x)) (h2 μ))) ht (x := I3 x) (I3_in hir h0.1 h0.2) hd (fun H1 locs1 hP1 hD1 hS1 => ?_)
  rw [upd_sM hir h0.1, XX_set (μ' := sM μ g (off + i) x) (h2 _).symm (fun j hj hjk => h3 μ (off + i) x (by omega) (by omega) j hj hjk)] at hP1
  exact kk H1 locs1 ls (sM_ok hM (ok_h hS)) (ok_t (ok_t (ok_t hS))) hL hP1 hS1 hl
theorem q_zast {k : Nat} {cA : ClassId} {g : Nat} {off : Int} {n : Nat} (hO : isA N E k cA g off n) (C : Cx l D cl tys N ad E own Ts cc nL R ret z G) (t0 : Nat) (ht : tys[t0]? = some (cA, .boolean)) {i x : Int} (h01 : x = 0 ∨ x = 1) (h0 : 0 ≤ i ∧ i < n) {μ' : Mm} (hμ : μ' = sM μ g (off + i) x) (hd : decode cc pc = .ok (.bastore, 1)) (kk : G μ' (pc + 1) L S) : G μ pc L (Vi x :: Vi i :: Vr k :: S) := by
  obtain ⟨p, e, s, m, args, below, meth, c, A, hx, hb, hml, hr, hown, hts, hlk, hK, hD, hA, rfl⟩ := C
  intro H locs ls hM hS hL hP hSs hl
  obtain ⟨h1, h2, h3⟩ := hO
  have hir : inR i := ok_h (ok_t hS)
  subst hμ
  refine va_zast hx hb hK hP (hD μ) hSs k t0 (XX_get h1 |>.trans (congrArg (fun x => some (ad k, x)) (h2 μ))) ht (x := I3 x) (I3_in hir h0.1 h0.2) hd (fun H1 locs1 hP1 hD1 hS1 => ?_)
  rw [show vp_nar .boolean (I3 x) = I3 x from by rcases h01 with rfl | rfl <;> rfl, upd_sM hir h0.1, XX_set (μ' := sM μ g (off + i) x) (h2 _).symm (fun j hj hjk => h3 μ (off + i) x (by omega) (by omega) j hj hjk)] at hP1
  exact kk H1 locs1 ls (sM_ok hM (ok_h hS)) (ok_t (ok_t (ok_t hS))) hL hP1 hS1 hl
theorem q_aald {k : Nat} {cA : ClassId} {n : Nat} {f : Nat → Nat} (hO : isQ N ad E k cA n f) (C : Cx l D cl tys N ad E own Ts cc nL R ret z G) (t0 : Nat) {ty : FieldType} (ht : tys[t0]? = some (cA, ty)) (hty : refKind ty = true) {i : Int} (h0 : 0 ≤ i ∧ i < n) (hd : decode cc pc = .ok (.aaload, 1)) (kk : G μ (pc + 1) L (Vr (f i.toNat) :: S)) : G μ pc L (Vi i :: Vr k :: S) := by
  obtain ⟨p, e, s, m, args, below, meth, c, A, hx, hb, hml, hr, hown, hts, hlk, hK, hD, hA, rfl⟩ := C
  intro H locs ls hM hS hL hP hSs hl
  obtain ⟨h1, h2⟩ := hO
  have hir : inR i := ok_h hS
  have hin := I3_in hir h0.1 h0.2
  have hlt : (I3 i).toNatClampNeg < n := Nat.not_le.mp fun q => hin (Or.inr q)
  have hcl := I3_cl hir h0.1
  have hP0 := hP k _ (XX_get h1 |>.trans (congrArg (fun x => some (ad k, x)) (h2 μ)))
  refine W.aald (v := .ref (ad (f i.toNat))) (ty := ty) hx hb hP0 ((hK.2 t0 _ ht).1 n (fun j => va_rf (some (ad (f j))))) hty (fun q => by cases q) (by show ¬ (I3 i < 0 ∨ (arrV _ _ _).slots.size ≤ _); rw [arrV_size]; exact hin) (by show (arrV _ _ _).slots[_]? = _; rw [arrV_read _ _ hlt]; show some (Value.ref (ad (f (I3 i).toNatClampNeg))) = _; rw [show (I3 i).toNatClampNeg = i.toNat by omega]) rfl rfl hd ?_
  exact kk H locs ls hM (ok_c trivial (ok_t (ok_t hS))) hL hP hSs hl
end RH
end
section
/-! CALLS over the pure level. -/
theorem Pz_blind {D : va_G} {cl : List vw_C} {tys : List (ClassId × FieldType)} {N : Nat} {ad : Nat → Nat} {E : Mm → Nat → va_E} {μ : Mm} {sz : Nat} {av : List Value} : FrameBlind (va_Pc av (Pz D cl tys N ad E μ sz)) := fun a U g mk q => by
  obtain ⟨q0, q1, qP, qK, qD⟩ := q
  exact ⟨q0, q1, qP, va_K.moved (u := U) (U := U.calling g mk a) (Vm.Alike.refl U.vm) qK, qD⟩
theorem XX_free {N : Nat} {ad : Nat → Nat} {E : Mm → Nat → va_E} {μ : Mm} {A : Nat → Prop} {H0 H : Heap} {locs : List Loc} (hD : va_D A (XX N ad E μ)) (hS : va_S A H0 H locs) (hA : ∀ q, H0.size ≤ q → A q) : ∀ q, va_A (XX N ad E μ) H.size q → A q := fun q h => by
  rcases h with ⟨k, e, h⟩ | h
  · exact hD.2 k (q, e) h
  · exact hA q (Nat.le_trans hS.1 h)
section RC
variable {l : Launch} {D : va_G} {cl : List vw_C} {tys : List (ClassId × FieldType)} {N : Nat} {ad : Nat → Nat} {E : Mm → Nat → va_E} {own : String} {Ts : List Cond} {cc : ByteArray} {nL : Nat} {R : Room} {ret : Option FieldType} {z : Int × Mm} {G : Mm → Nat → List (Nat × Vv) → List Vv → Prop} {μ : Mm} {pc : Nat} {L : List (Nat × Vv)}
theorem q_callVi (C : Cx l D cl tys N ad E own Ts cc nL R ret z G) {y : MethodName} {ws ws' : List Cond} {rm : Room} {bytes : ByteArray} {maxL n index k ci : Nat} {Cn : String} {T : u_T} {Nf : Nat} {F : List ((Nat × Int) ⊕ Nat)} (As S : List Vv) {z2 : Int × Mm} (hM : CT l D cl tys N ad E y ws rm (some .int) (Vr k :: As) μ z2) (hO : isO N ad E k ci F) (hc : cl[ci]? = some (Cn, T, Nf)) (hG : GoodIn Ts (wsV own index Cn y ws)) (hw : ws = Cond.code y bytes maxL (some .int) :: ws') (hrm : rm.cells = 0 ∧ rm.slots = 0) (hd : y.cls = Cn ∧ y.cls ≠ "java/lang/invoke/MethodHandle" ∧ y.cls ≠ "java/lang/invoke/VarHandle" ∧ (parseMethodDescriptor y.desc).map (fun d => d.parameters.length) = some n) (hR : rm.frames + 1 ≤ R.frames ∧ 8 + (maxL + 11) + rm.locals ≤ R.locals) (hn : As.length = n) (hroom : ((S.map (tv ad)).map fun v => v.category).sum ≤ 8) (hdg : decode cc pc = .ok (.invokevirtual index, 3)) {S0 : List Vv} (hS0 : As.reverse ++ Vr k :: S = S0) (kk : inR z2.1 → okM z2.2 → G z2.2 (pc + 3) L (Vi z2.1 :: S)) : G μ pc L S0 := by
  subst hS0
  obtain ⟨p, e, s, m, args, below, meth, c, A, hx, hb, hml, hr, hown, hts, hlk, hK, hD, hA, rfl⟩ := C
  intro H locs ls hMm hS hL hP hSs hl
  have hSr : ∀ v ∈ S, okV v := fun v hv => hS v (List.mem_append_right _ (List.mem_cons_of_mem _ hv))
  have hSa : ∀ v ∈ (Vr k :: As), okV v := fun v hv => by
    rcases List.mem_cons.mp hv with h | h
    · rw [h]; trivial
    · exact hS v (List.mem_append_left _ (List.mem_reverse.mpr h))
  have hF := XX_free (hD μ) hSs hA
  obtain ⟨h1, h2, h3, h4⟩ := hO
  have hcell : (XX N ad E μ)[k]? = some (ad k, .inr (ci, F.map (fv ad μ))) := (XX_get h1).trans (congrArg (fun x => some (ad k, x)) (h2 μ))
  rw [show (As.reverse ++ Vr k :: S).map (tv ad) = (As.map (tv ad)).reverse ++ Value.ref (ad k) :: S.map (tv ad) from by rw [List.map_append, List.map_reverse]; rfl]
  have hrun := va_runV (As := As.map (tv ad)) (rest := S.map (tv ad)) (p := p) (l := l) (e := e) (R := R) (meth := meth) (below := below) (cells := 0) (slots := 0) (H := H) (locs := locs) (g := F0 m pc ls ((As.map (tv ad)).reverse ++ Value.ref (ad k) :: S.map (tv ad))) ⟨hx, hb, hml, hown, hts⟩ (hM hMm hSa H.size) (cwV n hts hG hw hrm.1 hrm.2 hd hR) ⟨Pz_blind, va_recv hK hP (ci := ci) (q0 := k) hc hcell, fun U hU hW => ⟨rfl, by rw [hU], by rw [hU]; exact hP, va_K.moved hW.alike hK, (hD μ).weaken (fun _ _ _ _ => trivial)⟩⟩ rfl (by rw [List.length_map]; exact hn) hl.1 rfl (lv_room hroom) hdg ⟨Nat.zero_le _, Nat.zero_le _⟩
  refine va_calli (a := (Value.ref (ad k) :: As.map (tv ad)).toArray) hrun hSs (fun q _ h => hF q h) hF (fun r u t H1 locs1 ht hvm hw hB hz1 hk1 hS1 => ?_)
  rw [hw.1]
  have hP1 : va_P D cl (XX N ad E z2.2) H1 := by rw [← ht]; exact hB
  exact kk hw.2.1 hw.2.2 H1 locs1 ls hw.2.2 (ok_c hw.2.1 hSr) hL hP1 hS1 hl
theorem q_callSi (C : Cx l D cl tys N ad E own Ts cc nL R ret z G) {y : MethodName} {ws ws' : List Cond} {rm : Room} {bytes : ByteArray} {maxL n index : Nat} (As S : List Vv) {z2 : Int × Mm} (hM : CT l D cl tys N ad E y ws rm (some .int) As μ z2) (hG : GoodIn Ts (va_wsS own index y ws)) (hw : ws = Cond.code y bytes maxL (some .int) :: ws') (hrm : rm.cells = 0 ∧ rm.slots = 0) (hd : y.cls ≠ "java/lang/invoke/MethodHandle" ∧ y.cls ≠ "java/lang/invoke/VarHandle" ∧ (parseMethodDescriptor y.desc).map (fun d => d.parameters.length) = some n) (hR : rm.frames + 1 ≤ R.frames ∧ 8 + (maxL + 11) + rm.locals ≤ R.locals) (hn : As.length = n) (hroom : ((S.map (tv ad)).map fun v => v.category).sum ≤ 8) (hdg : decode cc pc = .ok (.invokestatic index, 3)) {S0 : List Vv} (hS0 : As.reverse ++ S = S0) (kk : inR z2.1 → okM z2.2 → G z2.2 (pc + 3) L (Vi z2.1 :: S)) : G μ pc L S0 := by
  subst hS0
  obtain ⟨p, e, s, m, args, below, meth, c, A, hx, hb, hml, hr, hown, hts, hlk, hK, hD, hA, rfl⟩ := C
  intro H locs ls hMm hS hL hP hSs hl
  have hSr : ∀ v ∈ S, okV v := fun v hv => hS v (List.mem_append_right _ hv)
  have hSa : ∀ v ∈ As, okV v := fun v hv => hS v (List.mem_append_left _ (List.mem_reverse.mpr hv))
  have hF := XX_free (hD μ) hSs hA
  rw [show (As.reverse ++ S).map (tv ad) = (As.map (tv ad)).reverse ++ S.map (tv ad) from by rw [List.map_append, List.map_reverse]]
  have hrun := va_runS (As := As.map (tv ad)) (rest := S.map (tv ad)) (p := p) (l := l) (e := e) (R := R) (meth := meth) (below := below) (cells := 0) (slots := 0) (H := H) (locs := locs) (g := F0 m pc ls ((As.map (tv ad)).reverse ++ S.map (tv ad))) ⟨hx, hb, hml, hown, hts⟩ (hM hMm hSa H.size) (va_cwS n hts hG hw hrm.1 hrm.2 hd hR) ⟨Pz_blind, fun U hU hW => ⟨rfl, by rw [hU], by rw [hU]; exact hP, va_K.moved hW.alike hK, (hD μ).weaken (fun _ _ _ _ => trivial)⟩⟩ rfl (by rw [List.length_map]; exact hn) hl.1 rfl (lv_room hroom) hdg ⟨Nat.zero_le _, Nat.zero_le _⟩
  refine va_calli (a := (As.map (tv ad)).toArray) hrun hSs (fun q _ h => hF q h) hF (fun r u t H1 locs1 ht hvm hw hB hz1 hk1 hS1 => ?_)
  rw [hw.1]
  have hP1 : va_P D cl (XX N ad E z2.2) H1 := by rw [← ht]; exact hB
  exact kk hw.2.1 hw.2.2 H1 locs1 ls hw.2.2 (ok_c hw.2.1 hSr) hL hP1 hS1 hl
theorem q_callVz (C : Cx l D cl tys N ad E own Ts cc nL R ret z G) {y : MethodName} {ws ws' : List Cond} {rm : Room} {bytes : ByteArray} {maxL n index k ci : Nat} {Cn : String} {T : u_T} {Nf : Nat} {F : List ((Nat × Int) ⊕ Nat)} (As S : List Vv) {z2 : Int × Mm} (hM : CT l D cl tys N ad E y ws rm (some .boolean) (Vr k :: As) μ z2) (hO : isO N ad E k ci F) (hc : cl[ci]? = some (Cn, T, Nf)) (hG : GoodIn Ts (wsV own index Cn y ws)) (hw : ws = Cond.code y bytes maxL (some .boolean) :: ws') (hrm : rm.cells = 0 ∧ rm.slots = 0) (hd : y.cls = Cn ∧ y.cls ≠ "java/lang/invoke/MethodHandle" ∧ y.cls ≠ "java/lang/invoke/VarHandle" ∧ (parseMethodDescriptor y.desc).map (fun d => d.parameters.length) = some n) (hR : rm.frames + 1 ≤ R.frames ∧ 8 + (maxL + 11) + rm.locals ≤ R.locals) (hn : As.length = n) (hroom : ((S.map (tv ad)).map fun v => v.category).sum ≤ 8) (hdg : decode cc pc = .ok (.invokevirtual index, 3)) {S0 : List Vv} (hS0 : As.reverse ++ Vr k :: S = S0) (kk : (z2.1 = 0 ∨ z2.1 = 1) → okM z2.2 → G z2.2 (pc + 3) L (Vi z2.1 :: S)) : G μ pc L S0 := by
  subst hS0
  obtain ⟨p, e, s, m, args, below, meth, c, A, hx, hb, hml, hr, hown, hts, hlk, hK, hD, hA, rfl⟩ := C
  intro H locs ls hMm hS hL hP hSs hl
  have hSr : ∀ v ∈ S, okV v := fun v hv => hS v (List.mem_append_right _ (List.mem_cons_of_mem _ hv))
  have hSa : ∀ v ∈ (Vr k :: As), okV v := fun v hv => by
    rcases List.mem_cons.mp hv with h | h
    · rw [h]; trivial
    · exact hS v (List.mem_append_left _ (List.mem_reverse.mpr h))
  have hF := XX_free (hD μ) hSs hA
  obtain ⟨h1, h2, h3, h4⟩ := hO
  have hcell : (XX N ad E μ)[k]? = some (ad k, .inr (ci, F.map (fv ad μ))) := (XX_get h1).trans (congrArg (fun x => some (ad k, x)) (h2 μ))
  rw [show (As.reverse ++ Vr k :: S).map (tv ad) = (As.map (tv ad)).reverse ++ Value.ref (ad k) :: S.map (tv ad) from by rw [List.map_append, List.map_reverse]; rfl]
  have hrun := va_runV (As := As.map (tv ad)) (rest := S.map (tv ad)) (p := p) (l := l) (e := e) (R := R) (meth := meth) (below := below) (cells := 0) (slots := 0) (H := H) (locs := locs) (g := F0 m pc ls ((As.map (tv ad)).reverse ++ Value.ref (ad k) :: S.map (tv ad))) ⟨hx, hb, hml, hown, hts⟩ (hM hMm hSa H.size) (cwV n hts hG hw hrm.1 hrm.2 hd hR) ⟨Pz_blind, va_recv hK hP (ci := ci) (q0 := k) hc hcell, fun U hU hW => ⟨rfl, by rw [hU], by rw [hU]; exact hP, va_K.moved hW.alike hK, (hD μ).weaken (fun _ _ _ _ => trivial)⟩⟩ rfl (by rw [List.length_map]; exact hn) hl.1 rfl (lv_room hroom) hdg ⟨Nat.zero_le _, Nat.zero_le _⟩
  refine va_calli (a := (Value.ref (ad k) :: As.map (tv ad)).toArray) hrun hSs (fun q _ h => hF q h) hF (fun r u t H1 locs1 ht hvm hw hB hz1 hk1 hS1 => ?_)
  rw [hw.1]
  have hP1 : va_P D cl (XX N ad E z2.2) H1 := by rw [← ht]; exact hB
  exact kk hw.2.1 hw.2.2 H1 locs1 ls hw.2.2 (ok_c (show inR z2.1 from by rcases hw.2.1 with q | q <;> rw [q] <;> exact ⟨by decide, by decide⟩) hSr) hL hP1 hS1 hl
theorem q_callSz (C : Cx l D cl tys N ad E own Ts cc nL R ret z G) {y : MethodName} {ws ws' : List Cond} {rm : Room} {bytes : ByteArray} {maxL n index : Nat} (As S : List Vv) {z2 : Int × Mm} (hM : CT l D cl tys N ad E y ws rm (some .boolean) As μ z2) (hG : GoodIn Ts (va_wsS own index y ws)) (hw : ws = Cond.code y bytes maxL (some .boolean) :: ws') (hrm : rm.cells = 0 ∧ rm.slots = 0) (hd : y.cls ≠ "java/lang/invoke/MethodHandle" ∧ y.cls ≠ "java/lang/invoke/VarHandle" ∧ (parseMethodDescriptor y.desc).map (fun d => d.parameters.length) = some n) (hR : rm.frames + 1 ≤ R.frames ∧ 8 + (maxL + 11) + rm.locals ≤ R.locals) (hn : As.length = n) (hroom : ((S.map (tv ad)).map fun v => v.category).sum ≤ 8) (hdg : decode cc pc = .ok (.invokestatic index, 3)) {S0 : List Vv} (hS0 : As.reverse ++ S = S0) (kk : (z2.1 = 0 ∨ z2.1 = 1) → okM z2.2 → G z2.2 (pc + 3) L (Vi z2.1 :: S)) : G μ pc L S0 := by
  subst hS0
  obtain ⟨p, e, s, m, args, below, meth, c, A, hx, hb, hml, hr, hown, hts, hlk, hK, hD, hA, rfl⟩ := C
  intro H locs ls hMm hS hL hP hSs hl
  have hSr : ∀ v ∈ S, okV v := fun v hv => hS v (List.mem_append_right _ hv)
  have hSa : ∀ v ∈ As, okV v := fun v hv => hS v (List.mem_append_left _ (List.mem_reverse.mpr hv))
  have hF := XX_free (hD μ) hSs hA
  rw [show (As.reverse ++ S).map (tv ad) = (As.map (tv ad)).reverse ++ S.map (tv ad) from by rw [List.map_append, List.map_reverse]]
  have hrun := va_runS (As := As.map (tv ad)) (rest := S.map (tv ad)) (p := p) (l := l) (e := e) (R := R) (meth := meth) (below := below) (cells := 0) (slots := 0) (H := H) (locs := locs) (g := F0 m pc ls ((As.map (tv ad)).reverse ++ S.map (tv ad))) ⟨hx, hb, hml, hown, hts⟩ (hM hMm hSa H.size) (va_cwS n hts hG hw hrm.1 hrm.2 hd hR) ⟨Pz_blind, fun U hU hW => ⟨rfl, by rw [hU], by rw [hU]; exact hP, va_K.moved hW.alike hK, (hD μ).weaken (fun _ _ _ _ => trivial)⟩⟩ rfl (by rw [List.length_map]; exact hn) hl.1 rfl (lv_room hroom) hdg ⟨Nat.zero_le _, Nat.zero_le _⟩
  refine va_calli (a := (As.map (tv ad)).toArray) hrun hSs (fun q _ h => hF q h) hF (fun r u t H1 locs1 ht hvm hw hB hz1 hk1 hS1 => ?_)
  rw [hw.1]
  have hP1 : va_P D cl (XX N ad E z2.2) H1 := by rw [← ht]; exact hB
  exact kk hw.2.1 hw.2.2 H1 locs1 ls hw.2.2 (ok_c (show inR z2.1 from by rcases hw.2.1 with q | q <;> rw [q] <;> exact ⟨by decide, by decide⟩) hSr) hL hP1 hS1 hl
theorem q_callVl (C : Cx l D cl tys N ad E own Ts cc nL R ret z G) {y : MethodName} {ws ws' : List Cond} {rm : Room} {bytes : ByteArray} {maxL n index k ci : Nat} {Cn : String} {T : u_T} {Nf : Nat} {F : List ((Nat × Int) ⊕ Nat)} (As S : List Vv) {z2 : Int × Mm} (hM : CT l D cl tys N ad E y ws rm (some .long) (Vr k :: As) μ z2) (hO : isO N ad E k ci F) (hc : cl[ci]? = some (Cn, T, Nf)) (hG : GoodIn Ts (wsV own index Cn y ws)) (hw : ws = Cond.code y bytes maxL (some .long) :: ws') (hrm : rm.cells = 0 ∧ rm.slots = 0) (hd : y.cls = Cn ∧ y.cls ≠ "java/lang/invoke/MethodHandle" ∧ y.cls ≠ "java/lang/invoke/VarHandle" ∧ (parseMethodDescriptor y.desc).map (fun d => d.parameters.length) = some n) (hR : rm.frames + 1 ≤ R.frames ∧ 8 + (maxL + 11) + rm.locals ≤ R.locals) (hn : As.length = n) (hroom : ((S.map (tv ad)).map fun v => v.category).sum ≤ 8) (hdg : decode cc pc = .ok (.invokevirtual index, 3)) {S0 : List Vv} (hS0 : As.reverse ++ Vr k :: S = S0) (kk : inL z2.1 → okM z2.2 → G z2.2 (pc + 3) L (Vl z2.1 :: S)) : G μ pc L S0 := by
  subst hS0
  obtain ⟨p, e, s, m, args, below, meth, c, A, hx, hb, hml, hr, hown, hts, hlk, hK, hD, hA, rfl⟩ := C
  intro H locs ls hMm hS hL hP hSs hl
  have hSr : ∀ v ∈ S, okV v := fun v hv => hS v (List.mem_append_right _ (List.mem_cons_of_mem _ hv))
  have hSa : ∀ v ∈ (Vr k :: As), okV v := fun v hv => by
    rcases List.mem_cons.mp hv with h | h
    · rw [h]; trivial
    · exact hS v (List.mem_append_left _ (List.mem_reverse.mpr h))
  have hF := XX_free (hD μ) hSs hA
  obtain ⟨h1, h2, h3, h4⟩ := hO
  have hcell : (XX N ad E μ)[k]? = some (ad k, .inr (ci, F.map (fv ad μ))) := (XX_get h1).trans (congrArg (fun x => some (ad k, x)) (h2 μ))
  rw [show (As.reverse ++ Vr k :: S).map (tv ad) = (As.map (tv ad)).reverse ++ Value.ref (ad k) :: S.map (tv ad) from by rw [List.map_append, List.map_reverse]; rfl]
  have hrun := va_runV (As := As.map (tv ad)) (rest := S.map (tv ad)) (p := p) (l := l) (e := e) (R := R) (meth := meth) (below := below) (cells := 0) (slots := 0) (H := H) (locs := locs) (g := F0 m pc ls ((As.map (tv ad)).reverse ++ Value.ref (ad k) :: S.map (tv ad))) ⟨hx, hb, hml, hown, hts⟩ (hM hMm hSa H.size) (cwV n hts hG hw hrm.1 hrm.2 hd hR) ⟨Pz_blind, va_recv hK hP (ci := ci) (q0 := k) hc hcell, fun U hU hW => ⟨rfl, by rw [hU], by rw [hU]; exact hP, va_K.moved hW.alike hK, (hD μ).weaken (fun _ _ _ _ => trivial)⟩⟩ rfl (by rw [List.length_map]; exact hn) hl.1 rfl (lv_room hroom) hdg ⟨Nat.zero_le _, Nat.zero_le _⟩
  refine va_calll (a := (Value.ref (ad k) :: As.map (tv ad)).toArray) hrun hSs (fun q _ h => hF q h) hF (fun r u t H1 locs1 ht hvm hw hB hz1 hk1 hS1 => ?_)
  rw [hw.1]
  have hP1 : va_P D cl (XX N ad E z2.2) H1 := by rw [← ht]; exact hB
  exact kk hw.2.1 hw.2.2 H1 locs1 ls hw.2.2 (ok_c hw.2.1 hSr) hL hP1 hS1 hl
theorem q_callSl (C : Cx l D cl tys N ad E own Ts cc nL R ret z G) {y : MethodName} {ws ws' : List Cond} {rm : Room} {bytes : ByteArray} {maxL n index : Nat} (As S : List Vv) {z2 : Int × Mm} (hM : CT l D cl tys N ad E y ws rm (some .long) As μ z2) (hG : GoodIn Ts (va_wsS own index y ws)) (hw : ws = Cond.code y bytes maxL (some .long) :: ws') (hrm : rm.cells = 0 ∧ rm.slots = 0) (hd : y.cls ≠ "java/lang/invoke/MethodHandle" ∧ y.cls ≠ "java/lang/invoke/VarHandle" ∧ (parseMethodDescriptor y.desc).map (fun d => d.parameters.length) = some n) (hR : rm.frames + 1 ≤ R.frames ∧ 8 + (maxL + 11) + rm.locals ≤ R.locals) (hn : As.length = n) (hroom : ((S.map (tv ad)).map fun v => v.category).sum ≤ 8) (hdg : decode cc pc = .ok (.invokestatic index, 3)) {S0 : List Vv} (hS0 : As.reverse ++ S = S0) (kk : inL z2.1 → okM z2.2 → G z2.2 (pc + 3) L (Vl z2.1 :: S)) : G μ pc L S0 := by
  subst hS0
  obtain ⟨p, e, s, m, args, below, meth, c, A, hx, hb, hml, hr, hown, hts, hlk, hK, hD, hA, rfl⟩ := C
  intro H locs ls hMm hS hL hP hSs hl
  have hSr : ∀ v ∈ S, okV v := fun v hv => hS v (List.mem_append_right _ hv)
  have hSa : ∀ v ∈ As, okV v := fun v hv => hS v (List.mem_append_left _ (List.mem_reverse.mpr hv))
  have hF := XX_free (hD μ) hSs hA
  rw [show (As.reverse ++ S).map (tv ad) = (As.map (tv ad)).reverse ++ S.map (tv ad) from by rw [List.map_append, List.map_reverse]]
  have hrun := va_runS (As := As.map (tv ad)) (rest := S.map (tv ad)) (p := p) (l := l) (e := e) (R := R) (meth := meth) (below := below) (cells := 0) (slots := 0) (H := H) (locs := locs) (g := F0 m pc ls ((As.map (tv ad)).reverse ++ S.map (tv ad))) ⟨hx, hb, hml, hown, hts⟩ (hM hMm hSa H.size) (va_cwS n hts hG hw hrm.1 hrm.2 hd hR) ⟨Pz_blind, fun U hU hW => ⟨rfl, by rw [hU], by rw [hU]; exact hP, va_K.moved hW.alike hK, (hD μ).weaken (fun _ _ _ _ => trivial)⟩⟩ rfl (by rw [List.length_map]; exact hn) hl.1 rfl (lv_room hroom) hdg ⟨Nat.zero_le _, Nat.zero_le _⟩
  refine va_calll (a := (As.map (tv ad)).toArray) hrun hSs (fun q _ h => hF q h) hF (fun r u t H1 locs1 ht hvm hw hB hz1 hk1 hS1 => ?_)
  rw [hw.1]
  have hP1 : va_P D cl (XX N ad E z2.2) H1 := by rw [← ht]; exact hB
  exact kk hw.2.1 hw.2.2 H1 locs1 ls hw.2.2 (ok_c hw.2.1 hSr) hL hP1 hS1 hl
theorem q_callVv (C : Cx l D cl tys N ad E own Ts cc nL R ret z G) {y : MethodName} {ws ws' : List Cond} {rm : Room} {bytes : ByteArray} {maxL n index k ci : Nat} {Cn : String} {T : u_T} {Nf : Nat} {F : List ((Nat × Int) ⊕ Nat)} (As S : List Vv) {z2 : Int × Mm} (hM : CT l D cl tys N ad E y ws rm none (Vr k :: As) μ z2) (hO : isO N ad E k ci F) (hc : cl[ci]? = some (Cn, T, Nf)) (hG : GoodIn Ts (wsV own index Cn y ws)) (hw : ws = Cond.code y bytes maxL none :: ws') (hrm : rm.cells = 0 ∧ rm.slots = 0) (hd : y.cls = Cn ∧ y.cls ≠ "java/lang/invoke/MethodHandle" ∧ y.cls ≠ "java/lang/invoke/VarHandle" ∧ (parseMethodDescriptor y.desc).map (fun d => d.parameters.length) = some n) (hR : rm.frames + 1 ≤ R.frames ∧ 8 + (maxL + 11) + rm.locals ≤ R.locals) (hn : As.length = n) (hroom : ((S.map (tv ad)).map fun v => v.category).sum ≤ 8) (hdg : decode cc pc = .ok (.invokevirtual index, 3)) {S0 : List Vv} (hS0 : As.reverse ++ Vr k :: S = S0) (kk : okM z2.2 → G z2.2 (pc + 3) L (S)) : G μ pc L S0 := by
  subst hS0
  obtain ⟨p, e, s, m, args, below, meth, c, A, hx, hb, hml, hr, hown, hts, hlk, hK, hD, hA, rfl⟩ := C
  intro H locs ls hMm hS hL hP hSs hl
  have hSr : ∀ v ∈ S, okV v := fun v hv => hS v (List.mem_append_right _ (List.mem_cons_of_mem _ hv))
  have hSa : ∀ v ∈ (Vr k :: As), okV v := fun v hv => by
    rcases List.mem_cons.mp hv with h | h
    · rw [h]; trivial
    · exact hS v (List.mem_append_left _ (List.mem_reverse.mpr h))
  have hF := XX_free (hD μ) hSs hA
  obtain ⟨h1, h2, h3, h4⟩ := hO
  have hcell : (XX N ad E μ)[k]? = some (ad k, .inr (ci, F.map (fv ad μ))) := (XX_get h1).trans (congrArg (fun x => some (ad k, x)) (h2 μ))
  rw [show (As.reverse ++ Vr k :: S).map (tv ad) = (As.map (tv ad)).reverse ++ Value.ref (ad k) :: S.map (tv ad) from by rw [List.map_append, List.map_reverse]; rfl]
  have hrun := va_runV (As := As.map (tv ad)) (rest := S.map (tv ad)) (p := p) (l := l) (e := e) (R := R) (meth := meth) (below := below) (cells := 0) (slots := 0) (H := H) (locs := locs) (g := F0 m pc ls ((As.map (tv ad)).reverse ++ Value.ref (ad k) :: S.map (tv ad))) ⟨hx, hb, hml, hown, hts⟩ (hM hMm hSa H.size) (cwV n hts hG hw hrm.1 hrm.2 hd hR) ⟨Pz_blind, va_recv hK hP (ci := ci) (q0 := k) hc hcell, fun U hU hW => ⟨rfl, by rw [hU], by rw [hU]; exact hP, va_K.moved hW.alike hK, (hD μ).weaken (fun _ _ _ _ => trivial)⟩⟩ rfl (by rw [List.length_map]; exact hn) hl.1 rfl (lv_room hroom) hdg ⟨Nat.zero_le _, Nat.zero_le _⟩
  refine va_callv (a := (Value.ref (ad k) :: As.map (tv ad)).toArray) hrun hSs (fun q _ h => hF q h) hF (fun u t H1 locs1 ht hvm hw hB hz1 hk1 hS1 => ?_)
  have hP1 : va_P D cl (XX N ad E z2.2) H1 := by rw [← ht]; exact hB
  exact kk hw H1 locs1 ls hw (hSr) hL hP1 hS1 hl
theorem q_callSv (C : Cx l D cl tys N ad E own Ts cc nL R ret z G) {y : MethodName} {ws ws' : List Cond} {rm : Room} {bytes : ByteArray} {maxL n index : Nat} (As S : List Vv) {z2 : Int × Mm} (hM : CT l D cl tys N ad E y ws rm none As μ z2) (hG : GoodIn Ts (va_wsS own index y ws)) (hw : ws = Cond.code y bytes maxL none :: ws') (hrm : rm.cells = 0 ∧ rm.slots = 0) (hd : y.cls ≠ "java/lang/invoke/MethodHandle" ∧ y.cls ≠ "java/lang/invoke/VarHandle" ∧ (parseMethodDescriptor y.desc).map (fun d => d.parameters.length) = some n) (hR : rm.frames + 1 ≤ R.frames ∧ 8 + (maxL + 11) + rm.locals ≤ R.locals) (hn : As.length = n) (hroom : ((S.map (tv ad)).map fun v => v.category).sum ≤ 8) (hdg : decode cc pc = .ok (.invokestatic index, 3)) {S0 : List Vv} (hS0 : As.reverse ++ S = S0) (kk : okM z2.2 → G z2.2 (pc + 3) L (S)) : G μ pc L S0 := by
  subst hS0
  obtain ⟨p, e, s, m, args, below, meth, c, A, hx, hb, hml, hr, hown, hts, hlk, hK, hD, hA, rfl⟩ := C
  intro H locs ls hMm hS hL hP hSs hl
  have hSr : ∀ v ∈ S, okV v := fun v hv => hS v (List.mem_append_right _ hv)
  have hSa : ∀ v ∈ As, okV v := fun v hv => hS v (List.mem_append_left _ (List.mem_reverse.mpr hv))
  have hF := XX_free (hD μ) hSs hA
  rw [show (As.reverse ++ S).map (tv ad) = (As.map (tv ad)).reverse ++ S.map (tv ad) from by rw [List.map_append, List.map_reverse]]
  have hrun := va_runS (As := As.map (tv ad)) (rest := S.map (tv ad)) (p := p) (l := l) (e := e) (R := R) (meth := meth) (below := below) (cells := 0) (slots := 0) (H := H) (locs := locs) (g := F0 m pc ls ((As.map (tv ad)).reverse ++ S.map (tv ad))) ⟨hx, hb, hml, hown, hts⟩ (hM hMm hSa H.size) (va_cwS n hts hG hw hrm.1 hrm.2 hd hR) ⟨Pz_blind, fun U hU hW => ⟨rfl, by rw [hU], by rw [hU]; exact hP, va_K.moved hW.alike hK, (hD μ).weaken (fun _ _ _ _ => trivial)⟩⟩ rfl (by rw [List.length_map]; exact hn) hl.1 rfl (lv_room hroom) hdg ⟨Nat.zero_le _, Nat.zero_le _⟩
  refine va_callv (a := (As.map (tv ad)).toArray) hrun hSs (fun q _ h => hF q h) hF (fun u t H1 locs1 ht hvm hw hB hz1 hk1 hS1 => ?_)
  have hP1 : va_P D cl (XX N ad E z2.2) H1 := by rw [← ht]; exact hB
  exact kk hw H1 locs1 ls hw (hSr) hL hP1 hS1 hl
end RC
end
section
theorem zz_t : 1 = 1 := rfl
end
