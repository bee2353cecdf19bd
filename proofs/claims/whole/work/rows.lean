section
-- ===== PART A: goes FIRST, ahead of the names: the tables' words, and 'selects' of the private methods out of them =====
/-- a private method of a class that the tables say can be made, by its rows of tables_1 -/
def lw_okq (q : MethodName × Nat) : Prop := (q.1.cls ≠ "java/lang/invoke/MethodHandle" ∧ q.1.cls ≠ "java/lang/invoke/VarHandle") ∧ Cond.instantiable q.1.cls q.2 ∈ tables_1 ∧ Cond.privateMethod q.1 ∈ tables_1 ∧ Cond.instanceMethod q.1 ∈ tables_1
theorem lw_p0 : lw_okq (⟨"LighthouseLiedTo$Reader", "advance", "()V"⟩, 7) := ⟨⟨by decide +kernel, by decide +kernel⟩, List.mem_of_getElem? (i := 28) (by decide +kernel), List.mem_of_getElem? (i := 207) (by decide +kernel), List.mem_of_getElem? (i := 208) (by decide +kernel)⟩
theorem lw_p1 : lw_okq (⟨"LighthouseLiedTo$Reader", "word", "()I"⟩, 7) := ⟨⟨by decide +kernel, by decide +kernel⟩, List.mem_of_getElem? (i := 28) (by decide +kernel), List.mem_of_getElem? (i := 214) (by decide +kernel), List.mem_of_getElem? (i := 215) (by decide +kernel)⟩
theorem lw_p2 : lw_okq (⟨"LighthouseLiedTo$Reader", "spells", "(Ljava/lang/String;)Z"⟩, 7) := ⟨⟨by decide +kernel, by decide +kernel⟩, List.mem_of_getElem? (i := 28) (by decide +kernel), List.mem_of_getElem? (i := 219) (by decide +kernel), List.mem_of_getElem? (i := 220) (by decide +kernel)⟩
theorem lw_p3 : lw_okq (⟨"LighthouseLiedTo$Reader", "number", "()I"⟩, 7) := ⟨⟨by decide +kernel, by decide +kernel⟩, List.mem_of_getElem? (i := 28) (by decide +kernel), List.mem_of_getElem? (i := 239) (by decide +kernel), List.mem_of_getElem? (i := 240) (by decide +kernel)⟩
theorem lw_p4 : lw_okq (⟨"LighthouseLiedTo$Reader", "expect", "(I)V"⟩, 7) := ⟨⟨by decide +kernel, by decide +kernel⟩, List.mem_of_getElem? (i := 28) (by decide +kernel), List.mem_of_getElem? (i := 246) (by decide +kernel), List.mem_of_getElem? (i := 247) (by decide +kernel)⟩
theorem lw_p5 : lw_okq (⟨"LighthouseLiedTo$Reader", "fail", "()V"⟩, 7) := ⟨⟨by decide +kernel, by decide +kernel⟩, List.mem_of_getElem? (i := 28) (by decide +kernel), List.mem_of_getElem? (i := 250) (by decide +kernel), List.mem_of_getElem? (i := 251) (by decide +kernel)⟩
theorem lw_p6 : lw_okq (⟨"LighthouseLiedTo$Reader", "joined", "(II)V"⟩, 7) := ⟨⟨by decide +kernel, by decide +kernel⟩, List.mem_of_getElem? (i := 28) (by decide +kernel), List.mem_of_getElem? (i := 254) (by decide +kernel), List.mem_of_getElem? (i := 255) (by decide +kernel)⟩
theorem lw_p7 : lw_okq (⟨"LighthouseLiedTo$Reader", "one", "(I)V"⟩, 7) := ⟨⟨by decide +kernel, by decide +kernel⟩, List.mem_of_getElem? (i := 28) (by decide +kernel), List.mem_of_getElem? (i := 258) (by decide +kernel), List.mem_of_getElem? (i := 259) (by decide +kernel)⟩
theorem lw_p8 : lw_okq (⟨"LighthouseLiedTo$Reader", "mayOpen", "(I)Z"⟩, 7) := ⟨⟨by decide +kernel, by decide +kernel⟩, List.mem_of_getElem? (i := 28) (by decide +kernel), List.mem_of_getElem? (i := 266) (by decide +kernel), List.mem_of_getElem? (i := 267) (by decide +kernel)⟩
theorem lw_p9 : lw_okq (⟨"LighthouseLiedTo", "isShip", "(I)Z"⟩, 10) := ⟨⟨by decide +kernel, by decide +kernel⟩, List.mem_of_getElem? (i := 16) (by decide +kernel), List.mem_of_getElem? (i := 385) (by decide +kernel), List.mem_of_getElem? (i := 386) (by decide +kernel)⟩
theorem lw_p10 : lw_okq (⟨"LighthouseLiedTo$Sea", "lose", "(I)V"⟩, 12) := ⟨⟨by decide +kernel, by decide +kernel⟩, List.mem_of_getElem? (i := 93) (by decide +kernel), List.mem_of_getElem? (i := 457) (by decide +kernel), List.mem_of_getElem? (i := 458) (by decide +kernel)⟩
theorem lw_p11 : lw_okq (⟨"LighthouseLiedTo", "think", "()V"⟩, 10) := ⟨⟨by decide +kernel, by decide +kernel⟩, List.mem_of_getElem? (i := 16) (by decide +kernel), List.mem_of_getElem? (i := 469) (by decide +kernel), List.mem_of_getElem? (i := 470) (by decide +kernel)⟩
theorem lw_p12 : lw_okq (⟨"LighthouseLiedTo", "refusalToJudge", "(II)I"⟩, 10) := ⟨⟨by decide +kernel, by decide +kernel⟩, List.mem_of_getElem? (i := 16) (by decide +kernel), List.mem_of_getElem? (i := 545) (by decide +kernel), List.mem_of_getElem? (i := 546) (by decide +kernel)⟩
theorem lw_p13 : lw_okq (⟨"LighthouseLiedTo", "refusalOfTold", "(I)I"⟩, 10) := ⟨⟨by decide +kernel, by decide +kernel⟩, List.mem_of_getElem? (i := 16) (by decide +kernel), List.mem_of_getElem? (i := 549) (by decide +kernel), List.mem_of_getElem? (i := 550) (by decide +kernel)⟩
theorem lw_p14 : lw_okq (⟨"LighthouseLiedTo", "firstOtherwise", "(II)I"⟩, 10) := ⟨⟨by decide +kernel, by decide +kernel⟩, List.mem_of_getElem? (i := 16) (by decide +kernel), List.mem_of_getElem? (i := 556) (by decide +kernel), List.mem_of_getElem? (i := 557) (by decide +kernel)⟩
theorem lw_p15 : lw_okq (⟨"LighthouseLiedTo", "lossesByTale", "(II)I"⟩, 10) := ⟨⟨by decide +kernel, by decide +kernel⟩, List.mem_of_getElem? (i := 16) (by decide +kernel), List.mem_of_getElem? (i := 601) (by decide +kernel), List.mem_of_getElem? (i := 602) (by decide +kernel)⟩
def lw_privs_1 : List (MethodName × Nat) := [(⟨"LighthouseLiedTo$Reader", "advance", "()V"⟩, 7), (⟨"LighthouseLiedTo$Reader", "word", "()I"⟩, 7), (⟨"LighthouseLiedTo$Reader", "spells", "(Ljava/lang/String;)Z"⟩, 7), (⟨"LighthouseLiedTo$Reader", "number", "()I"⟩, 7), (⟨"LighthouseLiedTo$Reader", "expect", "(I)V"⟩, 7), (⟨"LighthouseLiedTo$Reader", "fail", "()V"⟩, 7), (⟨"LighthouseLiedTo$Reader", "joined", "(II)V"⟩, 7), (⟨"LighthouseLiedTo$Reader", "one", "(I)V"⟩, 7), (⟨"LighthouseLiedTo$Reader", "mayOpen", "(I)Z"⟩, 7), (⟨"LighthouseLiedTo", "isShip", "(I)Z"⟩, 10), (⟨"LighthouseLiedTo$Sea", "lose", "(I)V"⟩, 12), (⟨"LighthouseLiedTo", "think", "()V"⟩, 10), (⟨"LighthouseLiedTo", "refusalToJudge", "(II)I"⟩, 10), (⟨"LighthouseLiedTo", "refusalOfTold", "(I)I"⟩, 10), (⟨"LighthouseLiedTo", "firstOtherwise", "(II)I"⟩, 10), (⟨"LighthouseLiedTo", "lossesByTale", "(II)I"⟩, 10)]
theorem lw_r1 : ∀ q ∈ lw_privs_1, lw_okq q := List.forall_mem_cons.mpr ⟨lw_p0, List.forall_mem_cons.mpr ⟨lw_p1, List.forall_mem_cons.mpr ⟨lw_p2, List.forall_mem_cons.mpr ⟨lw_p3, List.forall_mem_cons.mpr ⟨lw_p4, List.forall_mem_cons.mpr ⟨lw_p5, List.forall_mem_cons.mpr ⟨lw_p6, List.forall_mem_cons.mpr ⟨lw_p7, List.forall_mem_cons.mpr ⟨lw_p8, List.forall_mem_cons.mpr ⟨lw_p9, List.forall_mem_cons.mpr ⟨lw_p10, List.forall_mem_cons.mpr ⟨lw_p11, List.forall_mem_cons.mpr ⟨lw_p12, List.forall_mem_cons.mpr ⟨lw_p13, List.forall_mem_cons.mpr ⟨lw_p14, List.forall_mem_cons.mpr ⟨lw_p15, fun _ h => absurd h List.not_mem_nil⟩⟩⟩⟩⟩⟩⟩⟩⟩⟩⟩⟩⟩⟩⟩⟩
theorem lw_p16 : lw_okq (⟨"LighthouseLiedToModel", "next", "()V"⟩, 37) := ⟨⟨by decide +kernel, by decide +kernel⟩, List.mem_of_getElem? (i := 653) (by decide +kernel), List.mem_of_getElem? (i := 663) (by decide +kernel), List.mem_of_getElem? (i := 664) (by decide +kernel)⟩
theorem lw_p17 : lw_okq (⟨"LighthouseLiedToModel", "wordFrom", "(II)I"⟩, 37) := ⟨⟨by decide +kernel, by decide +kernel⟩, List.mem_of_getElem? (i := 653) (by decide +kernel), List.mem_of_getElem? (i := 670) (by decide +kernel), List.mem_of_getElem? (i := 671) (by decide +kernel)⟩
theorem lw_p18 : lw_okq (⟨"LighthouseLiedToModel", "eRead", "()Z"⟩, 37) := ⟨⟨by decide +kernel, by decide +kernel⟩, List.mem_of_getElem? (i := 653) (by decide +kernel), List.mem_of_getElem? (i := 674) (by decide +kernel), List.mem_of_getElem? (i := 675) (by decide +kernel)⟩
theorem lw_p19 : lw_okq (⟨"LighthouseLiedToModel", "puts", "(I)V"⟩, 37) := ⟨⟨by decide +kernel, by decide +kernel⟩, List.mem_of_getElem? (i := 653) (by decide +kernel), List.mem_of_getElem? (i := 679) (by decide +kernel), List.mem_of_getElem? (i := 680) (by decide +kernel)⟩
theorem lw_p20 : lw_okq (⟨"LighthouseLiedToModel", "unwinds", "(I)V"⟩, 37) := ⟨⟨by decide +kernel, by decide +kernel⟩, List.mem_of_getElem? (i := 653) (by decide +kernel), List.mem_of_getElem? (i := 683) (by decide +kernel), List.mem_of_getElem? (i := 684) (by decide +kernel)⟩
theorem lw_p21 : lw_okq (⟨"LighthouseLiedToModel", "opensOne", "(I)Z"⟩, 37) := ⟨⟨by decide +kernel, by decide +kernel⟩, List.mem_of_getElem? (i := 653) (by decide +kernel), List.mem_of_getElem? (i := 690) (by decide +kernel), List.mem_of_getElem? (i := 691) (by decide +kernel)⟩
theorem lw_p22 : lw_okq (⟨"LighthouseLiedToModel", "holds", "(I)V"⟩, 37) := ⟨⟨by decide +kernel, by decide +kernel⟩, List.mem_of_getElem? (i := 653) (by decide +kernel), List.mem_of_getElem? (i := 694) (by decide +kernel), List.mem_of_getElem? (i := 695) (by decide +kernel)⟩
theorem lw_p23 : lw_okq (⟨"LighthouseLiedToModel", "signOf", "()I"⟩, 37) := ⟨⟨by decide +kernel, by decide +kernel⟩, List.mem_of_getElem? (i := 653) (by decide +kernel), List.mem_of_getElem? (i := 698) (by decide +kernel), List.mem_of_getElem? (i := 699) (by decide +kernel)⟩
theorem lw_p24 : lw_okq (⟨"LighthouseLiedToModel", "between", "(I)Z"⟩, 37) := ⟨⟨by decide +kernel, by decide +kernel⟩, List.mem_of_getElem? (i := 653) (by decide +kernel), List.mem_of_getElem? (i := 702) (by decide +kernel), List.mem_of_getElem? (i := 703) (by decide +kernel)⟩
theorem lw_p25 : lw_okq (⟨"LighthouseLiedToModel", "afloat", "()I"⟩, 37) := ⟨⟨by decide +kernel, by decide +kernel⟩, List.mem_of_getElem? (i := 653) (by decide +kernel), List.mem_of_getElem? (i := 822) (by decide +kernel), List.mem_of_getElem? (i := 823) (by decide +kernel)⟩
theorem lw_p26 : lw_okq (⟨"LighthouseLiedToModel", "rockMany", "()I"⟩, 37) := ⟨⟨by decide +kernel, by decide +kernel⟩, List.mem_of_getElem? (i := 653) (by decide +kernel), List.mem_of_getElem? (i := 829) (by decide +kernel), List.mem_of_getElem? (i := 830) (by decide +kernel)⟩
theorem lw_p27 : lw_okq (⟨"LighthouseLiedToModel", "hasRock", "(I)Z"⟩, 37) := ⟨⟨by decide +kernel, by decide +kernel⟩, List.mem_of_getElem? (i := 653) (by decide +kernel), List.mem_of_getElem? (i := 833) (by decide +kernel), List.mem_of_getElem? (i := 834) (by decide +kernel)⟩
theorem lw_p28 : lw_okq (⟨"LighthouseLiedToModel", "isToldOf", "(II)V"⟩, 37) := ⟨⟨by decide +kernel, by decide +kernel⟩, List.mem_of_getElem? (i := 653) (by decide +kernel), List.mem_of_getElem? (i := 849) (by decide +kernel), List.mem_of_getElem? (i := 850) (by decide +kernel)⟩
theorem lw_p29 : lw_okq (⟨"LighthouseLiedToModel", "isShip", "(I)Z"⟩, 37) := ⟨⟨by decide +kernel, by decide +kernel⟩, List.mem_of_getElem? (i := 653) (by decide +kernel), List.mem_of_getElem? (i := 880) (by decide +kernel), List.mem_of_getElem? (i := 881) (by decide +kernel)⟩
theorem lw_p30 : lw_okq (⟨"LighthouseLiedToModel", "asksOf", "(III)I"⟩, 37) := ⟨⟨by decide +kernel, by decide +kernel⟩, List.mem_of_getElem? (i := 653) (by decide +kernel), List.mem_of_getElem? (i := 884) (by decide +kernel), List.mem_of_getElem? (i := 885) (by decide +kernel)⟩
theorem lw_p31 : lw_okq (⟨"LighthouseLiedToModel", "says", "(I)I"⟩, 37) := ⟨⟨by decide +kernel, by decide +kernel⟩, List.mem_of_getElem? (i := 653) (by decide +kernel), List.mem_of_getElem? (i := 888) (by decide +kernel), List.mem_of_getElem? (i := 889) (by decide +kernel)⟩
def lw_privs_2 : List (MethodName × Nat) := [(⟨"LighthouseLiedToModel", "next", "()V"⟩, 37), (⟨"LighthouseLiedToModel", "wordFrom", "(II)I"⟩, 37), (⟨"LighthouseLiedToModel", "eRead", "()Z"⟩, 37), (⟨"LighthouseLiedToModel", "puts", "(I)V"⟩, 37), (⟨"LighthouseLiedToModel", "unwinds", "(I)V"⟩, 37), (⟨"LighthouseLiedToModel", "opensOne", "(I)Z"⟩, 37), (⟨"LighthouseLiedToModel", "holds", "(I)V"⟩, 37), (⟨"LighthouseLiedToModel", "signOf", "()I"⟩, 37), (⟨"LighthouseLiedToModel", "between", "(I)Z"⟩, 37), (⟨"LighthouseLiedToModel", "afloat", "()I"⟩, 37), (⟨"LighthouseLiedToModel", "rockMany", "()I"⟩, 37), (⟨"LighthouseLiedToModel", "hasRock", "(I)Z"⟩, 37), (⟨"LighthouseLiedToModel", "isToldOf", "(II)V"⟩, 37), (⟨"LighthouseLiedToModel", "isShip", "(I)Z"⟩, 37), (⟨"LighthouseLiedToModel", "asksOf", "(III)I"⟩, 37), (⟨"LighthouseLiedToModel", "says", "(I)I"⟩, 37)]
theorem lw_r2 : ∀ q ∈ lw_privs_2, lw_okq q := List.forall_mem_cons.mpr ⟨lw_p16, List.forall_mem_cons.mpr ⟨lw_p17, List.forall_mem_cons.mpr ⟨lw_p18, List.forall_mem_cons.mpr ⟨lw_p19, List.forall_mem_cons.mpr ⟨lw_p20, List.forall_mem_cons.mpr ⟨lw_p21, List.forall_mem_cons.mpr ⟨lw_p22, List.forall_mem_cons.mpr ⟨lw_p23, List.forall_mem_cons.mpr ⟨lw_p24, List.forall_mem_cons.mpr ⟨lw_p25, List.forall_mem_cons.mpr ⟨lw_p26, List.forall_mem_cons.mpr ⟨lw_p27, List.forall_mem_cons.mpr ⟨lw_p28, List.forall_mem_cons.mpr ⟨lw_p29, List.forall_mem_cons.mpr ⟨lw_p30, List.forall_mem_cons.mpr ⟨lw_p31, fun _ h => absurd h List.not_mem_nil⟩⟩⟩⟩⟩⟩⟩⟩⟩⟩⟩⟩⟩⟩⟩⟩
theorem lw_p32 : lw_okq (⟨"LighthouseLiedToModel", "goesTo", "(I)I"⟩, 37) := ⟨⟨by decide +kernel, by decide +kernel⟩, List.mem_of_getElem? (i := 653) (by decide +kernel), List.mem_of_getElem? (i := 907) (by decide +kernel), List.mem_of_getElem? (i := 908) (by decide +kernel)⟩
theorem lw_p33 : lw_okq (⟨"LighthouseLiedToModel", "likesOf", "(II)I"⟩, 37) := ⟨⟨by decide +kernel, by decide +kernel⟩, List.mem_of_getElem? (i := 653) (by decide +kernel), List.mem_of_getElem? (i := 911) (by decide +kernel), List.mem_of_getElem? (i := 912) (by decide +kernel)⟩
theorem lw_p34 : lw_okq (⟨"LighthouseLiedToModel", "doesSink", "(I)Z"⟩, 37) := ⟨⟨by decide +kernel, by decide +kernel⟩, List.mem_of_getElem? (i := 653) (by decide +kernel), List.mem_of_getElem? (i := 918) (by decide +kernel), List.mem_of_getElem? (i := 919) (by decide +kernel)⟩
theorem lw_p35 : lw_okq (⟨"LighthouseLiedToModel", "nightOf", "()I"⟩, 37) := ⟨⟨by decide +kernel, by decide +kernel⟩, List.mem_of_getElem? (i := 653) (by decide +kernel), List.mem_of_getElem? (i := 931) (by decide +kernel), List.mem_of_getElem? (i := 932) (by decide +kernel)⟩
theorem lw_p36 : lw_okq (⟨"LighthouseLiedToModel", "sails", "(I)V"⟩, 37) := ⟨⟨by decide +kernel, by decide +kernel⟩, List.mem_of_getElem? (i := 653) (by decide +kernel), List.mem_of_getElem? (i := 935) (by decide +kernel), List.mem_of_getElem? (i := 936) (by decide +kernel)⟩
theorem lw_p37 : lw_okq (⟨"LighthouseLiedToModel", "teachesOf", "(I)I"⟩, 37) := ⟨⟨by decide +kernel, by decide +kernel⟩, List.mem_of_getElem? (i := 653) (by decide +kernel), List.mem_of_getElem? (i := 939) (by decide +kernel), List.mem_of_getElem? (i := 940) (by decide +kernel)⟩
theorem lw_p38 : lw_okq (⟨"LighthouseLiedToModel", "keeps", "()V"⟩, 37) := ⟨⟨by decide +kernel, by decide +kernel⟩, List.mem_of_getElem? (i := 653) (by decide +kernel), List.mem_of_getElem? (i := 947) (by decide +kernel), List.mem_of_getElem? (i := 948) (by decide +kernel)⟩
theorem lw_p39 : lw_okq (⟨"LighthouseLiedToModel", "goes", "(I)I"⟩, 37) := ⟨⟨by decide +kernel, by decide +kernel⟩, List.mem_of_getElem? (i := 653) (by decide +kernel), List.mem_of_getElem? (i := 951) (by decide +kernel), List.mem_of_getElem? (i := 952) (by decide +kernel)⟩
theorem lw_p40 : lw_okq (⟨"LighthouseLiedToModel", "toldBehind", "(I)I"⟩, 37) := ⟨⟨by decide +kernel, by decide +kernel⟩, List.mem_of_getElem? (i := 653) (by decide +kernel), List.mem_of_getElem? (i := 955) (by decide +kernel), List.mem_of_getElem? (i := 956) (by decide +kernel)⟩
theorem lw_p41 : lw_okq (⟨"LighthouseLiedToModel", "beliefAll", "()I"⟩, 37) := ⟨⟨by decide +kernel, by decide +kernel⟩, List.mem_of_getElem? (i := 653) (by decide +kernel), List.mem_of_getElem? (i := 959) (by decide +kernel), List.mem_of_getElem? (i := 960) (by decide +kernel)⟩
theorem lw_p42 : lw_okq (⟨"LighthouseLiedToModel", "lays", "()V"⟩, 37) := ⟨⟨by decide +kernel, by decide +kernel⟩, List.mem_of_getElem? (i := 653) (by decide +kernel), List.mem_of_getElem? (i := 963) (by decide +kernel), List.mem_of_getElem? (i := 964) (by decide +kernel)⟩
theorem lw_p43 : lw_okq (⟨"LighthouseLiedToModel", "brightest", "()J"⟩, 37) := ⟨⟨by decide +kernel, by decide +kernel⟩, List.mem_of_getElem? (i := 653) (by decide +kernel), List.mem_of_getElem? (i := 980) (by decide +kernel), List.mem_of_getElem? (i := 981) (by decide +kernel)⟩
theorem lw_p44 : lw_okq (⟨"LighthouseLiedToModel", "lostNow", "(I)I"⟩, 37) := ⟨⟨by decide +kernel, by decide +kernel⟩, List.mem_of_getElem? (i := 653) (by decide +kernel), List.mem_of_getElem? (i := 988) (by decide +kernel), List.mem_of_getElem? (i := 989) (by decide +kernel)⟩
theorem lw_p45 : lw_okq (⟨"LighthouseLiedToModel", "toldWrong", "(II)I"⟩, 37) := ⟨⟨by decide +kernel, by decide +kernel⟩, List.mem_of_getElem? (i := 653) (by decide +kernel), List.mem_of_getElem? (i := 1015) (by decide +kernel), List.mem_of_getElem? (i := 1016) (by decide +kernel)⟩
theorem lw_p46 : lw_okq (⟨"LighthouseLiedToModel", "sheetWrong", "(I)I"⟩, 37) := ⟨⟨by decide +kernel, by decide +kernel⟩, List.mem_of_getElem? (i := 653) (by decide +kernel), List.mem_of_getElem? (i := 1019) (by decide +kernel), List.mem_of_getElem? (i := 1020) (by decide +kernel)⟩
theorem lw_p47 : lw_okq (⟨"LighthouseLiedToModel", "unlike", "(II)I"⟩, 37) := ⟨⟨by decide +kernel, by decide +kernel⟩, List.mem_of_getElem? (i := 653) (by decide +kernel), List.mem_of_getElem? (i := 1023) (by decide +kernel), List.mem_of_getElem? (i := 1024) (by decide +kernel)⟩
def lw_privs_3 : List (MethodName × Nat) := [(⟨"LighthouseLiedToModel", "goesTo", "(I)I"⟩, 37), (⟨"LighthouseLiedToModel", "likesOf", "(II)I"⟩, 37), (⟨"LighthouseLiedToModel", "doesSink", "(I)Z"⟩, 37), (⟨"LighthouseLiedToModel", "nightOf", "()I"⟩, 37), (⟨"LighthouseLiedToModel", "sails", "(I)V"⟩, 37), (⟨"LighthouseLiedToModel", "teachesOf", "(I)I"⟩, 37), (⟨"LighthouseLiedToModel", "keeps", "()V"⟩, 37), (⟨"LighthouseLiedToModel", "goes", "(I)I"⟩, 37), (⟨"LighthouseLiedToModel", "toldBehind", "(I)I"⟩, 37), (⟨"LighthouseLiedToModel", "beliefAll", "()I"⟩, 37), (⟨"LighthouseLiedToModel", "lays", "()V"⟩, 37), (⟨"LighthouseLiedToModel", "brightest", "()J"⟩, 37), (⟨"LighthouseLiedToModel", "lostNow", "(I)I"⟩, 37), (⟨"LighthouseLiedToModel", "toldWrong", "(II)I"⟩, 37), (⟨"LighthouseLiedToModel", "sheetWrong", "(I)I"⟩, 37), (⟨"LighthouseLiedToModel", "unlike", "(II)I"⟩, 37)]
theorem lw_r3 : ∀ q ∈ lw_privs_3, lw_okq q := List.forall_mem_cons.mpr ⟨lw_p32, List.forall_mem_cons.mpr ⟨lw_p33, List.forall_mem_cons.mpr ⟨lw_p34, List.forall_mem_cons.mpr ⟨lw_p35, List.forall_mem_cons.mpr ⟨lw_p36, List.forall_mem_cons.mpr ⟨lw_p37, List.forall_mem_cons.mpr ⟨lw_p38, List.forall_mem_cons.mpr ⟨lw_p39, List.forall_mem_cons.mpr ⟨lw_p40, List.forall_mem_cons.mpr ⟨lw_p41, List.forall_mem_cons.mpr ⟨lw_p42, List.forall_mem_cons.mpr ⟨lw_p43, List.forall_mem_cons.mpr ⟨lw_p44, List.forall_mem_cons.mpr ⟨lw_p45, List.forall_mem_cons.mpr ⟨lw_p46, List.forall_mem_cons.mpr ⟨lw_p47, fun _ h => absurd h List.not_mem_nil⟩⟩⟩⟩⟩⟩⟩⟩⟩⟩⟩⟩⟩⟩⟩⟩
theorem lw_p48 : lw_okq (⟨"LighthouseLiedToModel", "tales", "(II)I"⟩, 37) := ⟨⟨by decide +kernel, by decide +kernel⟩, List.mem_of_getElem? (i := 653) (by decide +kernel), List.mem_of_getElem? (i := 1056) (by decide +kernel), List.mem_of_getElem? (i := 1057) (by decide +kernel)⟩
def lw_privs_4 : List (MethodName × Nat) := [(⟨"LighthouseLiedToModel", "tales", "(II)I"⟩, 37)]
theorem lw_r4 : ∀ q ∈ lw_privs_4, lw_okq q := List.forall_mem_cons.mpr ⟨lw_p48, fun _ h => absurd h List.not_mem_nil⟩
def lw_privs : List (MethodName × Nat) := lw_privs_1 ++ (lw_privs_2 ++ (lw_privs_3 ++ (lw_privs_4)))
def lw_tbl : List Cond := k2_sels lw_privs ++ tables_1
theorem lw_privs_ok : ∀ q ∈ lw_privs, lw_okq q := by
  show ∀ q ∈ lw_privs_1 ++ (lw_privs_2 ++ (lw_privs_3 ++ (lw_privs_4))), lw_okq q
  exact List.forall_mem_append.mpr ⟨lw_r1, List.forall_mem_append.mpr ⟨lw_r2, List.forall_mem_append.mpr ⟨lw_r3, lw_r4⟩⟩⟩
end
section
def RX0 : String := "LighthouseLiedTo$Law"
def TX0 : u_T := fun k => match k with
  | 0 => ("LighthouseLiedTo$Law", "steps", "[I", true)
  | 1 => ("LighthouseLiedTo$Law", "stack", "[I", true)
  | 2 => ("LighthouseLiedTo$Law", "ends", "[I", true)
  | _ => ("LighthouseLiedTo$Law", "size", "I", false)
def tyX0 : Nat → FieldType := fun k => match k with
  | 0 => .array .int
  | 1 => .array .int
  | 2 => .array .int
  | _ => .int
theorem nmX0 : ∀ a, a < 4 → ∀ b, b < 4 → a ≠ b → (TX0 a).2.1 ≠ (TX0 b).2.1 := by decide +kernel
theorem tyX0_ok : ∀ k, k < 4 → parseFieldDescriptor (TX0 k).2.2.1 = some (tyX0 k) := by decide +kernel
abbrev cX0_init : ByteArray := prog_2_method_1_code
def yX0_init : MethodName := ⟨RX0, "<init>", "()V"⟩
abbrev cX0_clear : ByteArray := prog_2_method_2_code
def yX0_clear : MethodName := ⟨RX0, "clear", "()V"⟩
abbrev cX0_add : ByteArray := prog_2_method_3_code
def yX0_add : MethodName := ⟨RX0, "add", "(I)V"⟩
abbrev cX0_endPart : ByteArray := prog_2_method_4_code
def yX0_endPart : MethodName := ⟨RX0, "endPart", "(I)V"⟩
abbrev cX0_worth : ByteArray := prog_2_method_5_code
def yX0_worth : MethodName := ⟨RX0, "worth", "(ILLighthouseLiedTo$Sea;II)I"⟩
abbrev cX0_named : ByteArray := prog_2_method_6_code
def yX0_named : MethodName := ⟨RX0, "named", "(ILLighthouseLiedTo$Sea;II)I"⟩
abbrev cX0_joined : ByteArray := prog_2_method_7_code
def yX0_joined : MethodName := ⟨RX0, "joined", "(III)I"⟩
def RX1 : String := "LighthouseLiedTo$Reader"
def TX1 : u_T := fun k => match k with
  | 0 => ("LighthouseLiedTo$Reader", "tape", "[I", false)
  | 1 => ("LighthouseLiedTo$Reader", "size", "I", false)
  | 2 => ("LighthouseLiedTo$Reader", "at", "I", false)
  | 3 => ("LighthouseLiedTo$Reader", "token", "I", false)
  | 4 => ("LighthouseLiedTo$Reader", "place", "I", false)
  | 5 => ("LighthouseLiedTo$Reader", "fault", "I", false)
  | _ => ("LighthouseLiedTo$Reader", "law", "LLighthouseLiedTo$Law;", false)
def tyX1 : Nat → FieldType := fun k => match k with
  | 0 => .array .int
  | 1 => .int
  | 2 => .int
  | 3 => .int
  | 4 => .int
  | 5 => .int
  | _ => .object "LighthouseLiedTo$Law"
theorem nmX1 : ∀ a, a < 7 → ∀ b, b < 7 → a ≠ b → (TX1 a).2.1 ≠ (TX1 b).2.1 := by decide +kernel
theorem tyX1_ok : ∀ k, k < 7 → parseFieldDescriptor (TX1 k).2.2.1 = some (tyX1 k) := by decide +kernel
abbrev cX1_init : ByteArray := prog_3_method_1_code
def yX1_init : MethodName := ⟨RX1, "<init>", "()V"⟩
abbrev cX1_read : ByteArray := prog_3_method_2_code
def yX1_read : MethodName := ⟨RX1, "read", "([IILLighthouseLiedTo$Law;)I"⟩
abbrev cX1_fail : ByteArray := prog_3_method_3_code
def yX1_fail : MethodName := ⟨RX1, "fail", "()V"⟩
abbrev cX1_expect : ByteArray := prog_3_method_4_code
def yX1_expect : MethodName := ⟨RX1, "expect", "(I)V"⟩
abbrev cX1_joined : ByteArray := prog_3_method_5_code
def yX1_joined : MethodName := ⟨RX1, "joined", "(II)V"⟩
abbrev cX1_one : ByteArray := prog_3_method_6_code
def yX1_one : MethodName := ⟨RX1, "one", "(I)V"⟩
abbrev cX1_mayOpen : ByteArray := prog_3_method_7_code
def yX1_mayOpen : MethodName := ⟨RX1, "mayOpen", "(I)Z"⟩
abbrev cX1_rankOf : ByteArray := prog_3_method_8_code
def yX1_rankOf : MethodName := ⟨RX1, "rankOf", "(I)I"⟩
abbrev cX1_advance : ByteArray := prog_3_method_9_code
def yX1_advance : MethodName := ⟨RX1, "advance", "()V"⟩
abbrev cX1_isLetter : ByteArray := prog_3_method_10_code
def yX1_isLetter : MethodName := ⟨RX1, "isLetter", "(I)Z"⟩
abbrev cX1_isDigit : ByteArray := prog_3_method_11_code
def yX1_isDigit : MethodName := ⟨RX1, "isDigit", "(I)Z"⟩
abbrev cX1_number : ByteArray := prog_3_method_12_code
def yX1_number : MethodName := ⟨RX1, "number", "()I"⟩
abbrev cX1_word : ByteArray := prog_3_method_13_code
def yX1_word : MethodName := ⟨RX1, "word", "()I"⟩
abbrev cX1_spells : ByteArray := prog_3_method_14_code
def yX1_spells : MethodName := ⟨RX1, "spells", "(Ljava/lang/String;)Z"⟩
abbrev cX1_signOf : ByteArray := prog_3_method_15_code
def yX1_signOf : MethodName := ⟨RX1, "signOf", "(I)I"⟩
def RX2 : String := "LighthouseLiedTo$Sea"
def TX2 : u_T := fun k => match k with
  | 0 => ("LighthouseLiedTo$Sea", "texts", "[LLighthouseLiedTo$Law;", true)
  | 1 => ("LighthouseLiedTo$Sea", "belief", "[I", true)
  | 2 => ("LighthouseLiedTo$Sea", "kind", "[I", true)
  | 3 => ("LighthouseLiedTo$Sea", "more", "[I", true)
  | 4 => ("LighthouseLiedTo$Sea", "cell", "[I", true)
  | 5 => ("LighthouseLiedTo$Sea", "draught", "[I", true)
  | 6 => ("LighthouseLiedTo$Sea", "rocks", "J", false)
  | 7 => ("LighthouseLiedTo$Sea", "lost", "I", false)
  | 8 => ("LighthouseLiedTo$Sea", "ships", "I", false)
  | 9 => ("LighthouseLiedTo$Sea", "doubt", "I", false)
  | 10 => ("LighthouseLiedTo$Sea", "night", "I", false)
  | _ => ("LighthouseLiedTo$Sea", "law", "I", false)
def tyX2 : Nat → FieldType := fun k => match k with
  | 0 => .array (.object "LighthouseLiedTo$Law")
  | 1 => .array .int
  | 2 => .array .int
  | 3 => .array .int
  | 4 => .array .int
  | 5 => .array .int
  | 6 => .long
  | 7 => .int
  | 8 => .int
  | 9 => .int
  | 10 => .int
  | _ => .int
theorem nmX2 : ∀ a, a < 12 → ∀ b, b < 12 → a ≠ b → (TX2 a).2.1 ≠ (TX2 b).2.1 := by decide +kernel
theorem tyX2_ok : ∀ k, k < 12 → parseFieldDescriptor (TX2 k).2.2.1 = some (tyX2 k) := by decide +kernel
abbrev cX2_init : ByteArray := prog_4_method_1_code
def yX2_init : MethodName := ⟨RX2, "<init>", "([LLighthouseLiedTo$Law;)V"⟩
abbrev cX2_become : ByteArray := prog_4_method_2_code
def yX2_become : MethodName := ⟨RX2, "become", "(LLighthouseLiedTo$Sea;)V"⟩
abbrev cX2_hasRock : ByteArray := prog_4_method_3_code
def yX2_hasRock : MethodName := ⟨RX2, "hasRock", "(I)Z"⟩
abbrev cX2_isLost : ByteArray := prog_4_method_4_code
def yX2_isLost : MethodName := ⟨RX2, "isLost", "(I)Z"⟩
abbrev cX2_afloat : ByteArray := prog_4_method_5_code
def yX2_afloat : MethodName := ⟨RX2, "afloat", "()I"⟩
abbrev cX2_allBelief : ByteArray := prog_4_method_6_code
def yX2_allBelief : MethodName := ⟨RX2, "allBelief", "()I"⟩
abbrev cX2_trueBelief : ByteArray := prog_4_method_7_code
def yX2_trueBelief : MethodName := ⟨RX2, "trueBelief", "()I"⟩
abbrev cX2_surelyRocks : ByteArray := prog_4_method_8_code
def yX2_surelyRocks : MethodName := ⟨RX2, "surelyRocks", "()J"⟩
abbrev cX2_brightest : ByteArray := prog_4_method_9_code
def yX2_brightest : MethodName := ⟨RX2, "brightest", "()J"⟩
abbrev cX2_launch : ByteArray := prog_4_method_10_code
def yX2_launch : MethodName := ⟨RX2, "launch", "(II)I"⟩
abbrev cX2_isOne : ByteArray := prog_4_method_11_code
def yX2_isOne : MethodName := ⟨RX2, "isOne", "(II)Z"⟩
abbrev cX2_hear : ByteArray := prog_4_method_12_code
def yX2_hear : MethodName := ⟨RX2, "hear", "(II)V"⟩
abbrev cX2_says : ByteArray := prog_4_method_13_code
def yX2_says : MethodName := ⟨RX2, "says", "(III)I"⟩
abbrev cX2_liking : ByteArray := prog_4_method_14_code
def yX2_liking : MethodName := ⟨RX2, "liking", "(II)I"⟩
abbrev cX2_sinking : ByteArray := prog_4_method_15_code
def yX2_sinking : MethodName := ⟨RX2, "sinking", "(I)Z"⟩
abbrev cX2_teaching : ByteArray := prog_4_method_16_code
def yX2_teaching : MethodName := ⟨RX2, "teaching", "(I)I"⟩
abbrev cX2_beside : ByteArray := prog_4_method_17_code
def yX2_beside : MethodName := ⟨RX2, "beside", "(II)I"⟩
abbrev cX2_goal : ByteArray := prog_4_method_18_code
def yX2_goal : MethodName := ⟨RX2, "goal", "(I)I"⟩
abbrev cX2_passNight : ByteArray := prog_4_method_19_code
def yX2_passNight : MethodName := ⟨RX2, "passNight", "()V"⟩
abbrev cX2_lose : ByteArray := prog_4_method_20_code
def yX2_lose : MethodName := ⟨RX2, "lose", "(I)V"⟩
abbrev cX2_lossesIn : ByteArray := prog_4_method_21_code
def yX2_lossesIn : MethodName := ⟨RX2, "lossesIn", "(I)I"⟩
def RX3 : String := "LighthouseLiedTo$Sheet"
def TX3 : u_T := fun k => match k with
  | 0 => ("LighthouseLiedTo$Sheet", "numbers", "[I", true)
  | 1 => ("LighthouseLiedTo$Sheet", "sort", "I", false)
  | _ => ("LighthouseLiedTo$Sheet", "size", "I", false)
def tyX3 : Nat → FieldType := fun k => match k with
  | 0 => .array .int
  | 1 => .int
  | _ => .int
theorem nmX3 : ∀ a, a < 3 → ∀ b, b < 3 → a ≠ b → (TX3 a).2.1 ≠ (TX3 b).2.1 := by decide +kernel
theorem tyX3_ok : ∀ k, k < 3 → parseFieldDescriptor (TX3 k).2.2.1 = some (tyX3 k) := by decide +kernel
abbrev cX3_init : ByteArray := prog_5_method_1_code
def yX3_init : MethodName := ⟨RX3, "<init>", "()V"⟩
abbrev cX3_become : ByteArray := prog_5_method_2_code
def yX3_become : MethodName := ⟨RX3, "become", "(II)V"⟩
abbrev cX3_has : ByteArray := prog_5_method_3_code
def yX3_has : MethodName := ⟨RX3, "has", "(I)Z"⟩
abbrev cX3_holds : ByteArray := prog_5_method_4_code
def yX3_holds : MethodName := ⟨RX3, "holds", "(II)Z"⟩
abbrev cX3_set : ByteArray := prog_5_method_5_code
def yX3_set : MethodName := ⟨RX3, "set", "(II)V"⟩
def RX4 : String := "LighthouseLiedTo"
def TX4 : u_T := fun k => match k with
  | 0 => ("LighthouseLiedTo", "texts", "[LLighthouseLiedTo$Law;", true)
  | 1 => ("LighthouseLiedTo", "now", "LLighthouseLiedTo$Sea;", true)
  | 2 => ("LighthouseLiedTo", "thought", "LLighthouseLiedTo$Sea;", true)
  | 3 => ("LighthouseLiedTo", "kept", "LLighthouseLiedTo$Sea;", true)
  | 4 => ("LighthouseLiedTo", "sheets", "[LLighthouseLiedTo$Sheet;", true)
  | 5 => ("LighthouseLiedTo", "tape", "[I", true)
  | 6 => ("LighthouseLiedTo", "reader", "LLighthouseLiedTo$Reader;", true)
  | 7 => ("LighthouseLiedTo", "textCount", "I", false)
  | 8 => ("LighthouseLiedTo", "tapeSize", "I", false)
  | _ => ("LighthouseLiedTo", "hasImage", "Z", false)
def tyX4 : Nat → FieldType := fun k => match k with
  | 0 => .array (.object "LighthouseLiedTo$Law")
  | 1 => .object "LighthouseLiedTo$Sea"
  | 2 => .object "LighthouseLiedTo$Sea"
  | 3 => .object "LighthouseLiedTo$Sea"
  | 4 => .array (.object "LighthouseLiedTo$Sheet")
  | 5 => .array .int
  | 6 => .object "LighthouseLiedTo$Reader"
  | 7 => .int
  | 8 => .int
  | _ => .boolean
theorem nmX4 : ∀ a, a < 10 → ∀ b, b < 10 → a ≠ b → (TX4 a).2.1 ≠ (TX4 b).2.1 := by decide +kernel
theorem tyX4_ok : ∀ k, k < 10 → parseFieldDescriptor (TX4 k).2.2.1 = some (tyX4 k) := by decide +kernel
abbrev cX4_init : ByteArray := prog_1_method_1_code
def yX4_init : MethodName := ⟨RX4, "<init>", "()V"⟩
abbrev cX4_count : ByteArray := prog_1_method_2_code
def yX4_count : MethodName := ⟨RX4, "count", "(I)I"⟩
abbrev cX4_rock : ByteArray := prog_1_method_3_code
def yX4_rock : MethodName := ⟨RX4, "rock", "(II)I"⟩
abbrev cX4_tell : ByteArray := prog_1_method_4_code
def yX4_tell : MethodName := ⟨RX4, "tell", "(II)I"⟩
abbrev cX4_believes : ByteArray := prog_1_method_5_code
def yX4_believes : MethodName := ⟨RX4, "believes", "(I)I"⟩
abbrev cX4_doubts : ByteArray := prog_1_method_6_code
def yX4_doubts : MethodName := ⟨RX4, "doubts", "(I)I"⟩
abbrev cX4_feed : ByteArray := prog_1_method_7_code
def yX4_feed : MethodName := ⟨RX4, "feed", "(IIIIII)I"⟩
abbrev cX4_text : ByteArray := prog_1_method_8_code
def yX4_text : MethodName := ⟨RX4, "text", "()I"⟩
abbrev cX4_force : ByteArray := prog_1_method_9_code
def yX4_force : MethodName := ⟨RX4, "force", "(I)I"⟩
abbrev cX4_asks : ByteArray := prog_1_method_10_code
def yX4_asks : MethodName := ⟨RX4, "asks", "(III)I"⟩
abbrev cX4_ship : ByteArray := prog_1_method_11_code
def yX4_ship : MethodName := ⟨RX4, "ship", "(II)I"⟩
abbrev cX4_put : ByteArray := prog_1_method_12_code
def yX4_put : MethodName := ⟨RX4, "put", "(III)I"⟩
abbrev cX4_told : ByteArray := prog_1_method_13_code
def yX4_told : MethodName := ⟨RX4, "told", "(II)I"⟩
abbrev cX4_likes : ByteArray := prog_1_method_14_code
def yX4_likes : MethodName := ⟨RX4, "likes", "(II)I"⟩
abbrev cX4_night : ByteArray := prog_1_method_15_code
def yX4_night : MethodName := ⟨RX4, "night", "()I"⟩
abbrev cX4_run : ByteArray := prog_1_method_16_code
def yX4_run : MethodName := ⟨RX4, "run", "(II)I"⟩
abbrev cX4_lostBy : ByteArray := prog_1_method_17_code
def yX4_lostBy : MethodName := ⟨RX4, "lostBy", "(II)I"⟩
abbrev cX4_track : ByteArray := prog_1_method_18_code
def yX4_track : MethodName := ⟨RX4, "track", "(II)J"⟩
abbrev cX4_sea : ByteArray := prog_1_method_19_code
def yX4_sea : MethodName := ⟨RX4, "sea", "(I)J"⟩
abbrev cX4_lie : ByteArray := prog_1_method_20_code
def yX4_lie : MethodName := ⟨RX4, "lie", "(III)I"⟩
abbrev cX4_blow : ByteArray := prog_1_method_21_code
def yX4_blow : MethodName := ⟨RX4, "blow", "(II)I"⟩
abbrev cX4_safe : ByteArray := prog_1_method_22_code
def yX4_safe : MethodName := ⟨RX4, "safe", "(II)J"⟩
abbrev cX4_trust : ByteArray := prog_1_method_23_code
def yX4_trust : MethodName := ⟨RX4, "trust", "(III)I"⟩
abbrev cX4_truth : ByteArray := prog_1_method_24_code
def yX4_truth : MethodName := ⟨RX4, "truth", "(I)J"⟩
abbrev cX4_judge : ByteArray := prog_1_method_25_code
def yX4_judge : MethodName := ⟨RX4, "judge", "(II)I"⟩
abbrev cX4_kinds : ByteArray := prog_1_method_26_code
def yX4_kinds : MethodName := ⟨RX4, "kinds", "(III)I"⟩
abbrev cX4_places : ByteArray := prog_1_method_27_code
def yX4_places : MethodName := ⟨RX4, "places", "(II)J"⟩
abbrev cX4_draughts : ByteArray := prog_1_method_28_code
def yX4_draughts : MethodName := ⟨RX4, "draughts", "(III)I"⟩
abbrev cX4_whose : ByteArray := prog_1_method_29_code
def yX4_whose : MethodName := ⟨RX4, "whose", "(I)I"⟩
abbrev cX4_laws : ByteArray := prog_1_method_30_code
def yX4_laws : MethodName := ⟨RX4, "laws", "(II)I"⟩
abbrev cX4_film : ByteArray := prog_1_method_31_code
def yX4_film : MethodName := ⟨RX4, "film", "(III)I"⟩
abbrev cX4_drawn : ByteArray := prog_1_method_32_code
def yX4_drawn : MethodName := ⟨RX4, "drawn", "(III)I"⟩
abbrev cX4_odds : ByteArray := prog_1_method_33_code
def yX4_odds : MethodName := ⟨RX4, "odds", "(IIIII)J"⟩
abbrev cX4_image : ByteArray := prog_1_method_34_code
def yX4_image : MethodName := ⟨RX4, "image", "()I"⟩
abbrev cX4_back : ByteArray := prog_1_method_35_code
def yX4_back : MethodName := ⟨RX4, "back", "()I"⟩
abbrev cX4_sheet : ByteArray := prog_1_method_36_code
def yX4_sheet : MethodName := ⟨RX4, "sheet", "(III)I"⟩
abbrev cX4_cell : ByteArray := prog_1_method_37_code
def yX4_cell : MethodName := ⟨RX4, "cell", "(III)I"⟩
abbrev cX4_copy : ByteArray := prog_1_method_38_code
def yX4_copy : MethodName := ⟨RX4, "copy", "(IIIII)I"⟩
abbrev cX4_shipsBy : ByteArray := prog_1_method_39_code
def yX4_shipsBy : MethodName := ⟨RX4, "shipsBy", "(IIII)I"⟩
abbrev cX4_taken : ByteArray := prog_1_method_40_code
def yX4_taken : MethodName := ⟨RX4, "taken", "(II)I"⟩
abbrev cX4_within : ByteArray := prog_1_method_41_code
def yX4_within : MethodName := ⟨RX4, "within", "(III)Z"⟩
abbrev cX4_isByte : ByteArray := prog_1_method_42_code
def yX4_isByte : MethodName := ⟨RX4, "isByte", "(I)Z"⟩
abbrev cX4_isCell : ByteArray := prog_1_method_43_code
def yX4_isCell : MethodName := ⟨RX4, "isCell", "(I)Z"⟩
abbrev cX4_isSheet : ByteArray := prog_1_method_44_code
def yX4_isSheet : MethodName := ⟨RX4, "isSheet", "(I)Z"⟩
abbrev cX4_isShip : ByteArray := prog_1_method_45_code
def yX4_isShip : MethodName := ⟨RX4, "isShip", "(I)Z"⟩
abbrev cX4_think : ByteArray := prog_1_method_46_code
def yX4_think : MethodName := ⟨RX4, "think", "()V"⟩
abbrev cX4_refusalOfTold : ByteArray := prog_1_method_47_code
def yX4_refusalOfTold : MethodName := ⟨RX4, "refusalOfTold", "(I)I"⟩
abbrev cX4_refusalToJudge : ByteArray := prog_1_method_48_code
def yX4_refusalToJudge : MethodName := ⟨RX4, "refusalToJudge", "(II)I"⟩
abbrev cX4_firstOtherwise : ByteArray := prog_1_method_49_code
def yX4_firstOtherwise : MethodName := ⟨RX4, "firstOtherwise", "(II)I"⟩
abbrev cX4_lossesByTale : ByteArray := prog_1_method_50_code
def yX4_lossesByTale : MethodName := ⟨RX4, "lossesByTale", "(II)I"⟩
abbrev cX4_inLowestTerms : ByteArray := prog_1_method_51_code
def yX4_inLowestTerms : MethodName := ⟨RX4, "inLowestTerms", "(III)J"⟩
abbrev cX4_commonDivisor : ByteArray := prog_1_method_52_code
def yX4_commonDivisor : MethodName := ⟨RX4, "commonDivisor", "(II)I"⟩
def RX5 : String := "LighthouseLiedToModel"
def TX5 : u_T := fun k => match k with
  | 0 => ("LighthouseLiedToModel", "ships", "I", false)
  | 1 => ("LighthouseLiedToModel", "kind", "[I", true)
  | 2 => ("LighthouseLiedToModel", "moreOf", "[I", true)
  | 3 => ("LighthouseLiedToModel", "onOf", "[I", true)
  | 4 => ("LighthouseLiedToModel", "draughtOf", "[I", true)
  | 5 => ("LighthouseLiedToModel", "lost", "[I", true)
  | 6 => ("LighthouseLiedToModel", "beliefs", "[I", true)
  | 7 => ("LighthouseLiedToModel", "rocks", "J", false)
  | 8 => ("LighthouseLiedToModel", "nights", "I", false)
  | 9 => ("LighthouseLiedToModel", "doubt", "I", false)
  | 10 => ("LighthouseLiedToModel", "tape", "[I", true)
  | 11 => ("LighthouseLiedToModel", "taped", "I", false)
  | 12 => ("LighthouseLiedToModel", "codes", "[I", true)
  | 13 => ("LighthouseLiedToModel", "starts", "[I", true)
  | 14 => ("LighthouseLiedToModel", "texts", "I", false)
  | 15 => ("LighthouseLiedToModel", "rule", "I", false)
  | 16 => ("LighthouseLiedToModel", "hasImage", "Z", false)
  | 17 => ("LighthouseLiedToModel", "imageRows", "[I", true)
  | 18 => ("LighthouseLiedToModel", "imageHeld", "[I", true)
  | 19 => ("LighthouseLiedToModel", "imageRocks", "J", false)
  | 20 => ("LighthouseLiedToModel", "sheetSort", "[I", true)
  | 21 => ("LighthouseLiedToModel", "sheetSize", "[I", true)
  | 22 => ("LighthouseLiedToModel", "cells", "[I", true)
  | 23 => ("LighthouseLiedToModel", "law", "[I", true)
  | 24 => ("LighthouseLiedToModel", "at", "I", false)
  | 25 => ("LighthouseLiedToModel", "begun", "I", false)
  | 26 => ("LighthouseLiedToModel", "token", "I", false)
  | 27 => ("LighthouseLiedToModel", "value", "I", false)
  | 28 => ("LighthouseLiedToModel", "words", "[I", true)
  | 29 => ("LighthouseLiedToModel", "held", "[I", true)
  | 30 => ("LighthouseLiedToModel", "heldMany", "I", false)
  | 31 => ("LighthouseLiedToModel", "opens", "I", false)
  | 32 => ("LighthouseLiedToModel", "out", "I", false)
  | 33 => ("LighthouseLiedToModel", "stack", "[I", true)
  | 34 => ("LighthouseLiedToModel", "named", "[I", true)
  | 35 => ("LighthouseLiedToModel", "kept", "[I", true)
  | _ => ("LighthouseLiedToModel", "afloatThen", "I", false)
def tyX5 : Nat → FieldType := fun k => match k with
  | 0 => .int
  | 1 => .array .int
  | 2 => .array .int
  | 3 => .array .int
  | 4 => .array .int
  | 5 => .array .int
  | 6 => .array .int
  | 7 => .long
  | 8 => .int
  | 9 => .int
  | 10 => .array .int
  | 11 => .int
  | 12 => .array .int
  | 13 => .array .int
  | 14 => .int
  | 15 => .int
  | 16 => .boolean
  | 17 => .array .int
  | 18 => .array .int
  | 19 => .long
  | 20 => .array .int
  | 21 => .array .int
  | 22 => .array .int
  | 23 => .array .int
  | 24 => .int
  | 25 => .int
  | 26 => .int
  | 27 => .int
  | 28 => .array .int
  | 29 => .array .int
  | 30 => .int
  | 31 => .int
  | 32 => .int
  | 33 => .array .int
  | 34 => .array .int
  | 35 => .array .int
  | _ => .int
theorem nmX5 : ∀ a, a < 37 → ∀ b, b < 37 → a ≠ b → (TX5 a).2.1 ≠ (TX5 b).2.1 := by decide +kernel
theorem tyX5_ok : ∀ k, k < 37 → parseFieldDescriptor (TX5 k).2.2.1 = some (tyX5 k) := by decide +kernel
abbrev cX5_init : ByteArray := prog_7_method_1_code
def yX5_init : MethodName := ⟨RX5, "<init>", "()V"⟩
abbrev cX5_in : ByteArray := prog_7_method_3_code
def yX5_in : MethodName := ⟨RX5, "in", "(III)Z"⟩
abbrev cX5_within : ByteArray := prog_7_method_4_code
def yX5_within : MethodName := ⟨RX5, "within", "(III)I"⟩
abbrev cX5_isCell : ByteArray := prog_7_method_5_code
def yX5_isCell : MethodName := ⟨RX5, "isCell", "(I)Z"⟩
abbrev cX5_isShip : ByteArray := prog_7_method_6_code
def yX5_isShip : MethodName := ⟨RX5, "isShip", "(I)Z"⟩
abbrev cX5_hasRock : ByteArray := prog_7_method_7_code
def yX5_hasRock : MethodName := ⟨RX5, "hasRock", "(I)Z"⟩
abbrev cX5_rockMany : ByteArray := prog_7_method_8_code
def yX5_rockMany : MethodName := ⟨RX5, "rockMany", "()I"⟩
abbrev cX5_afloat : ByteArray := prog_7_method_9_code
def yX5_afloat : MethodName := ⟨RX5, "afloat", "()I"⟩
abbrev cX5_ones : ByteArray := prog_7_method_10_code
def yX5_ones : MethodName := ⟨RX5, "ones", "(I)I"⟩
abbrev cX5_count : ByteArray := prog_7_method_11_code
def yX5_count : MethodName := ⟨RX5, "count", "(I)I"⟩
abbrev cX5_rock : ByteArray := prog_7_method_12_code
def yX5_rock : MethodName := ⟨RX5, "rock", "(II)I"⟩
abbrev cX5_isToldOf : ByteArray := prog_7_method_13_code
def yX5_isToldOf : MethodName := ⟨RX5, "isToldOf", "(II)V"⟩
abbrev cX5_tell : ByteArray := prog_7_method_14_code
def yX5_tell : MethodName := ⟨RX5, "tell", "(II)I"⟩
abbrev cX5_believes : ByteArray := prog_7_method_15_code
def yX5_believes : MethodName := ⟨RX5, "believes", "(I)I"⟩
abbrev cX5_doubts : ByteArray := prog_7_method_16_code
def yX5_doubts : MethodName := ⟨RX5, "doubts", "(I)I"⟩
abbrev cX5_isByte : ByteArray := prog_7_method_17_code
def yX5_isByte : MethodName := ⟨RX5, "isByte", "(I)Z"⟩
abbrev cX5_feed : ByteArray := prog_7_method_18_code
def yX5_feed : MethodName := ⟨RX5, "feed", "(IIIIII)I"⟩
abbrev cX5_wordFrom : ByteArray := prog_7_method_19_code
def yX5_wordFrom : MethodName := ⟨RX5, "wordFrom", "(II)I"⟩
abbrev cX5_next : ByteArray := prog_7_method_20_code
def yX5_next : MethodName := ⟨RX5, "next", "()V"⟩
abbrev cX5_rank : ByteArray := prog_7_method_21_code
def yX5_rank : MethodName := ⟨RX5, "rank", "(I)I"⟩
abbrev cX5_puts : ByteArray := prog_7_method_22_code
def yX5_puts : MethodName := ⟨RX5, "puts", "(I)V"⟩
abbrev cX5_unwinds : ByteArray := prog_7_method_23_code
def yX5_unwinds : MethodName := ⟨RX5, "unwinds", "(I)V"⟩
abbrev cX5_holds : ByteArray := prog_7_method_24_code
def yX5_holds : MethodName := ⟨RX5, "holds", "(I)V"⟩
abbrev cX5_opensOne : ByteArray := prog_7_method_25_code
def yX5_opensOne : MethodName := ⟨RX5, "opensOne", "(I)Z"⟩
abbrev cX5_between : ByteArray := prog_7_method_26_code
def yX5_between : MethodName := ⟨RX5, "between", "(I)Z"⟩
abbrev cX5_signOf : ByteArray := prog_7_method_27_code
def yX5_signOf : MethodName := ⟨RX5, "signOf", "()I"⟩
abbrev cX5_eRead : ByteArray := prog_7_method_28_code
def yX5_eRead : MethodName := ⟨RX5, "eRead", "()Z"⟩
abbrev cX5_text : ByteArray := prog_7_method_29_code
def yX5_text : MethodName := ⟨RX5, "text", "()I"⟩
abbrev cX5_two : ByteArray := prog_7_method_30_code
def yX5_two : MethodName := ⟨RX5, "two", "(III)I"⟩
abbrev cX5_says : ByteArray := prog_7_method_31_code
def yX5_says : MethodName := ⟨RX5, "says", "(I)I"⟩
abbrev cX5_force : ByteArray := prog_7_method_32_code
def yX5_force : MethodName := ⟨RX5, "force", "(I)I"⟩
abbrev cX5_asksOf : ByteArray := prog_7_method_33_code
def yX5_asksOf : MethodName := ⟨RX5, "asksOf", "(III)I"⟩
abbrev cX5_asks : ByteArray := prog_7_method_34_code
def yX5_asks : MethodName := ⟨RX5, "asks", "(III)I"⟩
abbrev cX5_ship : ByteArray := prog_7_method_35_code
def yX5_ship : MethodName := ⟨RX5, "ship", "(II)I"⟩
abbrev cX5_put : ByteArray := prog_7_method_36_code
def yX5_put : MethodName := ⟨RX5, "put", "(III)I"⟩
abbrev cX5_likesOf : ByteArray := prog_7_method_37_code
def yX5_likesOf : MethodName := ⟨RX5, "likesOf", "(II)I"⟩
abbrev cX5_doesSink : ByteArray := prog_7_method_38_code
def yX5_doesSink : MethodName := ⟨RX5, "doesSink", "(I)Z"⟩
abbrev cX5_teachesOf : ByteArray := prog_7_method_39_code
def yX5_teachesOf : MethodName := ⟨RX5, "teachesOf", "(I)I"⟩
abbrev cX5_besideOf : ByteArray := prog_7_method_40_code
def yX5_besideOf : MethodName := ⟨RX5, "besideOf", "(II)I"⟩
abbrev cX5_goesTo : ByteArray := prog_7_method_41_code
def yX5_goesTo : MethodName := ⟨RX5, "goesTo", "(I)I"⟩
abbrev cX5_told : ByteArray := prog_7_method_42_code
def yX5_told : MethodName := ⟨RX5, "told", "(II)I"⟩
abbrev cX5_likes : ByteArray := prog_7_method_43_code
def yX5_likes : MethodName := ⟨RX5, "likes", "(II)I"⟩
abbrev cX5_sails : ByteArray := prog_7_method_44_code
def yX5_sails : MethodName := ⟨RX5, "sails", "(I)V"⟩
abbrev cX5_nightOf : ByteArray := prog_7_method_45_code
def yX5_nightOf : MethodName := ⟨RX5, "nightOf", "()I"⟩
abbrev cX5_night : ByteArray := prog_7_method_46_code
def yX5_night : MethodName := ⟨RX5, "night", "()I"⟩
abbrev cX5_keeps : ByteArray := prog_7_method_47_code
def yX5_keeps : MethodName := ⟨RX5, "keeps", "()V"⟩
abbrev cX5_lays : ByteArray := prog_7_method_48_code
def yX5_lays : MethodName := ⟨RX5, "lays", "()V"⟩
abbrev cX5_goes : ByteArray := prog_7_method_49_code
def yX5_goes : MethodName := ⟨RX5, "goes", "(I)I"⟩
abbrev cX5_beliefAll : ByteArray := prog_7_method_50_code
def yX5_beliefAll : MethodName := ⟨RX5, "beliefAll", "()I"⟩
abbrev cX5_toldBehind : ByteArray := prog_7_method_51_code
def yX5_toldBehind : MethodName := ⟨RX5, "toldBehind", "(I)I"⟩
abbrev cX5_run : ByteArray := prog_7_method_52_code
def yX5_run : MethodName := ⟨RX5, "run", "(II)I"⟩
abbrev cX5_lostBy : ByteArray := prog_7_method_53_code
def yX5_lostBy : MethodName := ⟨RX5, "lostBy", "(II)I"⟩
abbrev cX5_track : ByteArray := prog_7_method_54_code
def yX5_track : MethodName := ⟨RX5, "track", "(II)J"⟩
abbrev cX5_brightest : ByteArray := prog_7_method_55_code
def yX5_brightest : MethodName := ⟨RX5, "brightest", "()J"⟩
abbrev cX5_sea : ByteArray := prog_7_method_56_code
def yX5_sea : MethodName := ⟨RX5, "sea", "(I)J"⟩
abbrev cX5_lostNow : ByteArray := prog_7_method_57_code
def yX5_lostNow : MethodName := ⟨RX5, "lostNow", "(I)I"⟩
abbrev cX5_lie : ByteArray := prog_7_method_58_code
def yX5_lie : MethodName := ⟨RX5, "lie", "(III)I"⟩
abbrev cX5_blow : ByteArray := prog_7_method_59_code
def yX5_blow : MethodName := ⟨RX5, "blow", "(II)I"⟩
abbrev cX5_safe : ByteArray := prog_7_method_60_code
def yX5_safe : MethodName := ⟨RX5, "safe", "(II)J"⟩
abbrev cX5_trust : ByteArray := prog_7_method_61_code
def yX5_trust : MethodName := ⟨RX5, "trust", "(III)I"⟩
abbrev cX5_lowest : ByteArray := prog_7_method_62_code
def yX5_lowest : MethodName := ⟨RX5, "lowest", "(JJI)J"⟩
abbrev cX5_truth : ByteArray := prog_7_method_63_code
def yX5_truth : MethodName := ⟨RX5, "truth", "(I)J"⟩
abbrev cX5_sheetWrong : ByteArray := prog_7_method_64_code
def yX5_sheetWrong : MethodName := ⟨RX5, "sheetWrong", "(I)I"⟩
abbrev cX5_toldWrong : ByteArray := prog_7_method_65_code
def yX5_toldWrong : MethodName := ⟨RX5, "toldWrong", "(II)I"⟩
abbrev cX5_unlike : ByteArray := prog_7_method_66_code
def yX5_unlike : MethodName := ⟨RX5, "unlike", "(II)I"⟩
abbrev cX5_judge : ByteArray := prog_7_method_67_code
def yX5_judge : MethodName := ⟨RX5, "judge", "(II)I"⟩
abbrev cX5_kinds : ByteArray := prog_7_method_68_code
def yX5_kinds : MethodName := ⟨RX5, "kinds", "(III)I"⟩
abbrev cX5_places : ByteArray := prog_7_method_69_code
def yX5_places : MethodName := ⟨RX5, "places", "(II)J"⟩
abbrev cX5_draughts : ByteArray := prog_7_method_70_code
def yX5_draughts : MethodName := ⟨RX5, "draughts", "(III)I"⟩
abbrev cX5_whose : ByteArray := prog_7_method_71_code
def yX5_whose : MethodName := ⟨RX5, "whose", "(I)I"⟩
abbrev cX5_laws : ByteArray := prog_7_method_72_code
def yX5_laws : MethodName := ⟨RX5, "laws", "(II)I"⟩
abbrev cX5_film : ByteArray := prog_7_method_73_code
def yX5_film : MethodName := ⟨RX5, "film", "(III)I"⟩
abbrev cX5_tales : ByteArray := prog_7_method_74_code
def yX5_tales : MethodName := ⟨RX5, "tales", "(II)I"⟩
abbrev cX5_drawn : ByteArray := prog_7_method_75_code
def yX5_drawn : MethodName := ⟨RX5, "drawn", "(III)I"⟩
abbrev cX5_odds : ByteArray := prog_7_method_76_code
def yX5_odds : MethodName := ⟨RX5, "odds", "(IIIII)J"⟩
abbrev cX5_image : ByteArray := prog_7_method_77_code
def yX5_image : MethodName := ⟨RX5, "image", "()I"⟩
abbrev cX5_back : ByteArray := prog_7_method_78_code
def yX5_back : MethodName := ⟨RX5, "back", "()I"⟩
abbrev cX5_sheet : ByteArray := prog_7_method_79_code
def yX5_sheet : MethodName := ⟨RX5, "sheet", "(III)I"⟩
abbrev cX5_cell : ByteArray := prog_7_method_80_code
def yX5_cell : MethodName := ⟨RX5, "cell", "(III)I"⟩
abbrev cX5_copy : ByteArray := prog_7_method_81_code
def yX5_copy : MethodName := ⟨RX5, "copy", "(IIIII)I"⟩
abbrev cX5_shipsBy : ByteArray := prog_7_method_82_code
def yX5_shipsBy : MethodName := ⟨RX5, "shipsBy", "(IIII)I"⟩
abbrev cX5_isUnder : ByteArray := prog_7_method_83_code
def yX5_isUnder : MethodName := ⟨RX5, "isUnder", "(II)Z"⟩
abbrev cX5_taken : ByteArray := prog_7_method_84_code
def yX5_taken : MethodName := ⟨RX5, "taken", "(II)I"⟩
def RJ6 : String := "java/lang/Integer"
abbrev cJ6_bitCount_0f7a4 : ByteArray := prog_8_method_49_code
def yJ6_bitCount_0f7a4 : MethodName := ⟨RJ6, "bitCount", "(I)I"⟩
def RJ13 : String := "java/lang/Long"
abbrev cJ13_bitCount_95d88 : ByteArray := prog_9_method_50_code
def yJ13_bitCount_95d88 : MethodName := ⟨RJ13, "bitCount", "(J)I"⟩
def RJ9 : String := "java/lang/Math"
abbrev cJ9_max_7cf53 : ByteArray := prog_10_method_65_code
def yJ9_max_7cf53 : MethodName := ⟨RJ9, "max", "(II)I"⟩
abbrev cJ9_min_7cf53 : ByteArray := prog_10_method_69_code
def yJ9_min_7cf53 : MethodName := ⟨RJ9, "min", "(II)I"⟩
def RJ0 : String := "java/lang/String"
abbrev cJ0_length_8abf5 : ByteArray := prog_11_method_54_code
def yJ0_length_8abf5 : MethodName := ⟨RJ0, "length", "()I"⟩
abbrev cJ0_charAt_5068e : ByteArray := prog_11_method_56_code
def yJ0_charAt_5068e : MethodName := ⟨RJ0, "charAt", "(I)C"⟩
abbrev cJ0_coder_7d493 : ByteArray := prog_11_method_152_code
def yJ0_coder_7d493 : MethodName := ⟨RJ0, "coder", "()B"⟩
abbrev cJ0_isLatin1_aae02 : ByteArray := prog_11_method_154_code
def yJ0_isLatin1_aae02 : MethodName := ⟨RJ0, "isLatin1", "()Z"⟩
abbrev cJ0_checkIndex_df160 : ByteArray := prog_11_method_155_code
def yJ0_checkIndex_df160 : MethodName := ⟨RJ0, "checkIndex", "(II)V"⟩
def RJ1 : String := "java/lang/StringLatin1"
abbrev cJ1_charAt_3b067 : ByteArray := prog_12_method_2_code
def yJ1_charAt_3b067 : MethodName := ⟨RJ1, "charAt", "([BI)C"⟩
def RJ2 : String := "java/lang/StringUTF16"
abbrev cJ2_getChar_3b067 : ByteArray := prog_13_method_5_code
def yJ2_getChar_3b067 : MethodName := ⟨RJ2, "getChar", "([BI)C"⟩
abbrev cJ2_length_9d52b : ByteArray := prog_13_method_6_code
def yJ2_length_9d52b : MethodName := ⟨RJ2, "length", "([B)I"⟩
abbrev cJ2_charAt_3b067 : ByteArray := prog_13_method_83_code
def yJ2_charAt_3b067 : MethodName := ⟨RJ2, "charAt", "([BI)C"⟩
abbrev cJ2_checkIndex_2214a : ByteArray := prog_13_method_91_code
def yJ2_checkIndex_2214a : MethodName := ⟨RJ2, "checkIndex", "(I[B)V"⟩
def RJ10 : String := "java/lang/System"
def RJ3 : String := "jdk/internal/util/Preconditions"
abbrev cJ3_checkIndex_8e157 : ByteArray := prog_15_method_11_code
def yJ3_checkIndex_8e157 : MethodName := ⟨RJ3, "checkIndex", "(IILjava/util/function/BiFunction;)I"⟩
def RL : String := "LighthouseLiedToLaw"
abbrev cL_law : ByteArray := code
def yL_law : MethodName := ⟨RL, "law", "([I)Z"⟩
end
section

/-- the words of the tables that stay through a call -/
def tb : List Cond := lw_tbl.filter goodWord
theorem tb_mem {w : Cond} (i : Nat) (h : lw_tbl[i]? = some w) (hg : goodWord w = true) : w ∈ tb := List.mem_filter.mpr ⟨List.mem_of_getElem? h, hg⟩
/-! ===== the judgement V: from an abstract state (world of σ, pc, locals, stack) the method ends with what 'res' says, if it says anything ===== -/
abbrev Zt : Type := Program × Launch × Env × Room × State × MethodId × Array Value × List Frame × Method × Code
abbrev Gt : Type := va_G × ClassId × ClassId × ClassId × Nat × Option Nat × (Nat → Nat) × (Nat → Nat)
abbrev classes : List vw_C := [(RX0, TX0, 4), (RX1, TX1, 7), (RX2, TX2, 12), (RX3, TX3, 3), (RX4, TX4, 10), (RX5, TX5, 37)]
abbrev tysG (g : Gt) : List (ClassId × FieldType) := [(g.2.1, .int), (g.2.2.1, .object "LighthouseLiedTo$Law"), (g.2.2.2.1, .object "LighthouseLiedTo$Sheet")]
def KG (g : Gt) (U : State) : Prop := va_K g.1 classes (tysG g) U
def kabF (j : Nat) : Int32 := [-1, 0, 0, 1, 2, 0].getD j 0
def txtJS : List String := ["shines 50 + column + row - belief ; fades 3 ; fears belief ;", "belief", "column", "row", "night", "doubt", "draught", "or", "and", "not", "shines", "fades", "fears"]
def lenJS : List Nat := txtJS.map String.length
def bytJS : List (List Int32) := txtJS.map (fun t => t.toList.map (fun c => Int32.ofNat c.toNat))
def ownJS : List (String × Nat) := [(RX4, 49), (RX1, 87), (RX1, 93), (RX1, 95), (RX1, 97), (RX1, 99), (RX1, 101), (RX1, 103), (RX1, 105), (RX1, 107), (RX1, 109), (RX1, 111), (RX1, 113)]
def Ex (g : Gt) (A : Nat → Prop) (U : State) (H : Heap) : Prop :=
  va_Z RX2 "KIND_ABOVE" "[I" (.ref g.2.2.2.2.1) A U H ∧ va_T .int g.2.2.2.2.1 6 (fun j => .int (kabF j)) A U H ∧
  va_Z RJ0 "COMPACT_STRINGS" "Z" (.int 1) A U H ∧ va_Z RJ3 "SIOOBE_FORMATTER" "Ljava/util/function/BiFunction;" (va_rf g.2.2.2.2.2.1) A U H ∧
  vk_S 13 lenJS bytJS g.2.2.2.2.2.2.1 g.2.2.2.2.2.2.2 A U H ∧ ∀ i : Nat, i < 13 → vk_R (ownJS.getD i ("", 0)).1 (ownJS.getD i ("", 0)).2 (txtJS.getD i "") (g.2.2.2.2.2.2.1 i) U
theorem Ex.kept {g : Gt} {A : Nat → Prop} {U : State} {H H1 : Heap} (h : Ex g A U H) (hq : ∀ a : Nat, a < H.size → ¬ A a → H1[a]? = H[a]?) : Ex g A U H1 :=
  ⟨h.1.kept hq, h.2.1.kept hq, h.2.2.1.kept hq, h.2.2.2.1.kept hq, h.2.2.2.2.1.kept hq, h.2.2.2.2.2⟩
theorem Ex.narrow {g : Gt} {A B : Nat → Prop} {U : State} {H : Heap} (h : Ex g A U H) (hAB : ∀ q, B q → A q) : Ex g B U H :=
  ⟨h.1.narrow hAB, h.2.1.narrow hAB, h.2.2.1.narrow hAB, h.2.2.2.1.narrow hAB, h.2.2.2.2.1.narrow hAB, h.2.2.2.2.2⟩
theorem Ex.warm {g : Gt} {A : Nat → Prop} {s U : State} {H : Heap} (hW : s.WarmedH U.vm) (h : Ex g A s H) : Ex g A U H :=
  ⟨va_Z.moved hW.alike h.1, va_T.moved hW.alike h.2.1, va_Z.moved hW.alike h.2.2.1, va_Z.moved hW.alike h.2.2.2.1, vk_S.moved hW.alike h.2.2.2.2.1, fun i hi => vk_R.warm hW (h.2.2.2.2.2 i hi)⟩
theorem Ex.same {g : Gt} {A : Nat → Prop} {u U : State} {H : Heap} (hv : U.vm = u.vm) (h : Ex g A u H) : Ex g A U H := by
  have ha : u.vm.Alike U.vm := by rw [hv]; exact Vm.Alike.refl u.vm
  exact ⟨va_Z.moved ha h.1, va_T.moved ha h.2.1, va_Z.moved ha h.2.2.1, va_Z.moved ha h.2.2.2.1, vk_S.moved ha h.2.2.2.2.1, fun i hi => vk_R.same hv (h.2.2.2.2.2 i hi)⟩
def AA (L : List Nat) (sz : Nat) : Nat → Prop := fun q => q ∈ L ∨ sz ≤ q
theorem AA.mono {L : List Nat} {a b : Nat} (h : a ≤ b) : ∀ q, AA L b q → AA L a q := fun q hq => hq.elim Or.inl (fun x => Or.inr (Nat.le_trans h x))
def rmk (k : Nat) : Room := { frames := k, cells := 0, slots := 0, locals := 100 * k }
def Fx (g : Gt) (L : List Nat) (K : Nat) (own : String) (cc : ByteArray) (nL : Nat) (ret : Option FieldType) (z : Zt) : Prop :=
  match z with
  | (p, _, _, R, s, m, args, _, meth, c) => p.tables.exec = Jvm.exec ∧ c.code = cc ∧ c.maxLocals = nL ∧ meth.sig.returnType = ret ∧ meth.locks = false ∧ s.vm.findClass own = some m.cls ∧ (∀ w ∈ tb, w.before args s = true) ∧ KG g s ∧ Ex g (AA L s.heap.size) s s.heap ∧ L.Nodup ∧ R = rmk K
def CQ {τ ρ : Type} (g : Gt) (wl : τ → va_W) (inj : ρ → Option Value) (L : List Nat) (r : ρ) (σ : τ) : Array Value → State → Outcome → State → Prop := fun _ st oc t =>
  oc = .returned (inj r) ∧ va_P g.1 classes (wl σ) t.heap ∧ va_F (AA L st.heap.size) st t
def V {τ ρ : Type} (g : Gt) (L : List Nat) (K : Nat) (own : String) (cc : ByteArray) (nL : Nat) (ret : Option FieldType) (wl : τ → va_W) (inj : ρ → Option Value) (z : Zt) (res : Option (ρ × τ)) (σ : τ) (pc : Nat) (lv : List (Nat × Value)) (st : List Value) : Prop :=
  match z with
  | (p, l, e, R, s, m, args, below, meth, c) => Fx g L K own cc nL ret (p, l, e, R, s, m, args, below, meth, c) → (∀ σ : τ, (wl σ).map Prod.fst = L) → ∀ (r : ρ) (σ' : τ), res = some (r, σ') → ∀ (H : Heap) (locs : List Loc) (ls : Array Slot), va_P g.1 classes (wl σ) H → va_S (AA L s.heap.size) s.heap H locs → lv_has ls nL lv →
    W p l e R s m args below meth c H locs 0 0 (MQ below (CQ g wl inj L r σ') args s 0 0 (AA L s.heap.size)) (F0 m pc ls st)
def PRE {τ : Type} (g : Gt) (L : List Nat) (wl : τ → va_W) (σ : τ) (sz : Nat) : State → Prop := fun U => U.heap.size = sz ∧ va_P g.1 classes (wl σ) U.heap ∧ KG g U ∧ Ex g (AA L sz) U U.heap
/-- a method's contract: it does what f says, where f says anything -/
def CT {τ ρ : Type} (g : Gt) (L : List Nat) (y : MethodName) (cc : ByteArray) (nL : Nat) (ret : Option FieldType) (k : Nat) (av : List Value) (inj : ρ → Option Value) (wl : τ → va_W) (f : τ → Option (ρ × τ)) : Prop :=
  L.Nodup → (∀ σ : τ, (wl σ).map Prod.fst = L) → ∀ (l : Launch) (σ : τ) (sz : Nat) (r : ρ) (σ' : τ), f σ = some (r, σ') →
    Met l y (Cond.code y cc nL ret :: tb) (rmk k) (va_Pc av (PRE g L wl σ sz)) (CQ g wl inj L r σ') 0 0 (AA L sz)
def bnd {α β : Type} (o : Option α) (k : α → Option β) : Option β := match o with
  | none => none
  | some q => k q
theorem bnd_some {α β : Type} (a : α) (k : α → Option β) : bnd (some a) k = k a := rfl
theorem bnd_none {α β : Type} (k : α → Option β) : bnd (none : Option α) k = none := rfl
def iI : Int32 → Option Value := fun x => some (.int x)
def iL : Int64 → Option Value := fun x => some (.long x)
def iU : Unit → Option Value := fun _ => none
/-- the locals' list: lookup and store -/
def lk : List (Nat × Value) → Nat → Option Value
  | [], _ => none
  | q :: l, i => bif Nat.beq q.1 i then some q.2 else lk l i
theorem lk_mem {i : Nat} {v : Value} : ∀ {lv : List (Nat × Value)}, lk lv i = some v → (i, v) ∈ lv
  | [], h => by cases h
  | q :: l, h => by
    unfold lk at h
    cases hq : Nat.beq q.1 i with
    | true =>
      rw [hq] at h
      have e : q.1 = i := Nat.eq_of_beq_eq_true hq
      have e2 : q.2 = v := Option.some.inj h
      have : q = (i, v) := Prod.ext e e2
      rw [this]; exact List.mem_cons_self
    | false => rw [hq] at h; exact List.mem_cons_of_mem _ (lk_mem h)
def ls1 (i : Nat) (v : Value) (lv : List (Nat × Value)) : List (Nat × Value) := (i, v) :: lv.filter (fun q => !(q.1 == i) && !(q.1 + 1 == i && q.2.category == 2))
def ls2 (i : Nat) (v : Value) (lv : List (Nat × Value)) : List (Nat × Value) := (i, v) :: lv.filter (fun q => !(q.1 == i) && (!(q.1 == i + 1) && !(q.1 + 1 == i && q.2.category == 2)))
/-- an index guard -/
def grd {α : Type} (i : Int32) (n : Nat) (r : Option α) : Option α := if ¬ (i < 0 ∨ n ≤ i.toNatClampNeg) then r else none
def rI (x y : Int32) : Int32 := x - x / y * y
def rL (x y : Int64) : Int64 := x - x / y * y
def usI (x y : Int32) : Int32 := (x.toUInt32 >>> (y.toUInt32 &&& Int32.toUInt32 31)).toInt32
def slI (x y : Int32) : Int32 := x <<< (y &&& 31)
def srI (x y : Int32) : Int32 := x >>> (y &&& 31)
def slL (x : Int64) (y : Int32) : Int64 := x <<< (y.toInt64 &&& 63)
def srL (x : Int64) (y : Int32) : Int64 := x >>> (y.toInt64 &&& 63)
def usL (x : Int64) (y : Int32) : Int64 := (x.toUInt64 >>> (y.toInt64.toUInt64 &&& Int64.toUInt64 63)).toInt64
def mxI (x y : Int32) : Int32 := if x < y then y else x
def mnI (x y : Int32) : Int32 := if y < x then y else x
section VROWS
variable {τ ρ : Type} {g : Gt} {L : List Nat} {K : Nat} {own : String} {cc : ByteArray} {nL : Nat} {ret : Option FieldType} {wl : τ → va_W} {inj : ρ → Option Value} {z : Zt} {res r1 r2 : Option (ρ × τ)} {σ : τ} {pc : Nat} {lv lv' : List (Nat × Value)} {st : List Value}

theorem v_iload_n {k0 : Fin 4} {i : Nat} {x : Int32} (hd : decode cc pc = .ok (.iload_n k0, 1)) (hi : (k0 : Nat) = i) (h : lk lv i = some (.int x)) (k : V g L K own cc nL ret wl inj z res σ (pc + 1) lv (.int x :: st)) : V g L K own cc nL ret wl inj z res σ pc lv st := by
  obtain ⟨p, l, e, R, s, m, args, below, meth, c⟩ := z
  intro hF hW r σ' hr H locs ls hP hS hl
  exact lv_iload_n hF.1 hF.2.1 hd hi (hl.2.2 _ (lk_mem h)) (k hF hW r σ' hr H locs ls hP hS hl)
theorem v_iload {i : Nat} {x : Int32} (hd : decode cc pc = .ok (.iload i, 2)) (h : lk lv i = some (.int x)) (k : V g L K own cc nL ret wl inj z res σ (pc + 2) lv (.int x :: st)) : V g L K own cc nL ret wl inj z res σ pc lv st := by
  obtain ⟨p, l, e, R, s, m, args, below, meth, c⟩ := z
  intro hF hW r σ' hr H locs ls hP hS hl
  exact lv_iload hF.1 hF.2.1 hd (hl.2.2 _ (lk_mem h)) (k hF hW r σ' hr H locs ls hP hS hl)
theorem v_lload_n {k0 : Fin 4} {i : Nat} {x : Int64} (hd : decode cc pc = .ok (.lload_n k0, 1)) (hi : (k0 : Nat) = i) (h : lk lv i = some (.long x)) (k : V g L K own cc nL ret wl inj z res σ (pc + 1) lv (.long x :: st)) : V g L K own cc nL ret wl inj z res σ pc lv st := by
  obtain ⟨p, l, e, R, s, m, args, below, meth, c⟩ := z
  intro hF hW r σ' hr H locs ls hP hS hl
  exact lv_lload_n hF.1 hF.2.1 hd hi (hl.2.2 _ (lk_mem h)) (k hF hW r σ' hr H locs ls hP hS hl)
theorem v_lload {i : Nat} {x : Int64} (hd : decode cc pc = .ok (.lload i, 2)) (h : lk lv i = some (.long x)) (k : V g L K own cc nL ret wl inj z res σ (pc + 2) lv (.long x :: st)) : V g L K own cc nL ret wl inj z res σ pc lv st := by
  obtain ⟨p, l, e, R, s, m, args, below, meth, c⟩ := z
  intro hF hW r σ' hr H locs ls hP hS hl
  exact lv_lload hF.1 hF.2.1 hd (hl.2.2 _ (lk_mem h)) (k hF hW r σ' hr H locs ls hP hS hl)
theorem v_aload_n {k0 : Fin 4} {i : Nat} {x : Nat} (hd : decode cc pc = .ok (.aload_n k0, 1)) (hi : (k0 : Nat) = i) (h : lk lv i = some (.ref x)) (k : V g L K own cc nL ret wl inj z res σ (pc + 1) lv (.ref x :: st)) : V g L K own cc nL ret wl inj z res σ pc lv st := by
  obtain ⟨p, l, e, R, s, m, args, below, meth, c⟩ := z
  intro hF hW r σ' hr H locs ls hP hS hl
  exact lv_aload_n hF.1 hF.2.1 hd hi (hl.2.2 _ (lk_mem h)) (k hF hW r σ' hr H locs ls hP hS hl)
theorem v_aload {i : Nat} {x : Nat} (hd : decode cc pc = .ok (.aload i, 2)) (h : lk lv i = some (.ref x)) (k : V g L K own cc nL ret wl inj z res σ (pc + 2) lv (.ref x :: st)) : V g L K own cc nL ret wl inj z res σ pc lv st := by
  obtain ⟨p, l, e, R, s, m, args, below, meth, c⟩ := z
  intro hF hW r σ' hr H locs ls hP hS hl
  exact lv_aload hF.1 hF.2.1 hd (hl.2.2 _ (lk_mem h)) (k hF hW r σ' hr H locs ls hP hS hl)
theorem v_aload_nN {k0 : Fin 4} {i : Nat} (hd : decode cc pc = .ok (.aload_n k0, 1)) (hi : (k0 : Nat) = i) (h : lk lv i = some .null) (k : V g L K own cc nL ret wl inj z res σ (pc + 1) lv (.null :: st)) : V g L K own cc nL ret wl inj z res σ pc lv st := by
  obtain ⟨p, l, e, R, s, m, args, below, meth, c⟩ := z
  intro hF hW r σ' hr H locs ls hP hS hl
  exact lv_aload_nN hF.1 hF.2.1 hd hi (hl.2.2 _ (lk_mem h)) (k hF hW r σ' hr H locs ls hP hS hl)
theorem v_iconst {n : Int} {v : Int32} (hd : decode cc pc = .ok (.iconst n, 1)) (hv : Int32.ofInt n = v) (k : V g L K own cc nL ret wl inj z res σ (pc + 1) lv (.int v :: st)) : V g L K own cc nL ret wl inj z res σ pc lv st := by
  obtain ⟨p, l, e, R, s, m, args, below, meth, c⟩ := z
  intro hF hW r σ' hr H locs ls hP hS hl
  exact lv_iconst hF.1 hF.2.1 hd hv (k hF hW r σ' hr H locs ls hP hS hl)
theorem v_bipush {n : Int} {v : Int32} (hd : decode cc pc = .ok (.bipush n, 2)) (hv : (Int8.ofInt n).toInt32 = v) (k : V g L K own cc nL ret wl inj z res σ (pc + 2) lv (.int v :: st)) : V g L K own cc nL ret wl inj z res σ pc lv st := by
  obtain ⟨p, l, e, R, s, m, args, below, meth, c⟩ := z
  intro hF hW r σ' hr H locs ls hP hS hl
  exact lv_bipush hF.1 hF.2.1 hd hv (k hF hW r σ' hr H locs ls hP hS hl)
theorem v_sipush {n : Int} {v : Int32} (hd : decode cc pc = .ok (.sipush n, 3)) (hv : (Int16.ofInt n).toInt32 = v) (k : V g L K own cc nL ret wl inj z res σ (pc + 3) lv (.int v :: st)) : V g L K own cc nL ret wl inj z res σ pc lv st := by
  obtain ⟨p, l, e, R, s, m, args, below, meth, c⟩ := z
  intro hF hW r σ' hr H locs ls hP hS hl
  exact lv_sipush hF.1 hF.2.1 hd hv (k hF hW r σ' hr H locs ls hP hS hl)
theorem v_lconst {n : Fin 2} {v : Int64} (hd : decode cc pc = .ok (.lconst n, 1)) (hv : Int64.ofNat (n : Nat) = v) (k : V g L K own cc nL ret wl inj z res σ (pc + 1) lv (.long v :: st)) : V g L K own cc nL ret wl inj z res σ pc lv st := by
  obtain ⟨p, l, e, R, s, m, args, below, meth, c⟩ := z
  intro hF hW r σ' hr H locs ls hP hS hl
  exact lv_lconst hF.1 hF.2.1 hd hv (k hF hW r σ' hr H locs ls hP hS hl)
theorem v_ldc {ix : Nat} {v : Int32} (hd : decode cc pc = .ok (.ldc ix, 2)) (hc : Cond.constant own ix v ∈ tb) (k : V g L K own cc nL ret wl inj z res σ (pc + 2) lv (.int v :: st)) : V g L K own cc nL ret wl inj z res σ pc lv st := by
  obtain ⟨p, l, e, R, s, m, args, below, meth, c⟩ := z
  intro hF hW r σ' hr H locs ls hP hS hl
  exact lv_ldc hF.1 hF.2.1 hF.2.2.2.2.2.1 (hF.2.2.2.2.2.2.1 _ hc) hd (k hF hW r σ' hr H locs ls hP hS hl)
theorem v_ldcw {ix : Nat} {v : Int32} (hd : decode cc pc = .ok (.ldc_w ix, 3)) (hc : Cond.constant own ix v ∈ tb) (k : V g L K own cc nL ret wl inj z res σ (pc + 3) lv (.int v :: st)) : V g L K own cc nL ret wl inj z res σ pc lv st := by
  obtain ⟨p, l, e, R, s, m, args, below, meth, c⟩ := z
  intro hF hW r σ' hr H locs ls hP hS hl
  exact lv_ldcw hF.1 hF.2.1 hF.2.2.2.2.2.1 (hF.2.2.2.2.2.2.1 _ hc) hd (k hF hW r σ' hr H locs ls hP hS hl)
theorem v_ldc2 {ix : Nat} {v : Int64} (hd : decode cc pc = .ok (.ldc2_w ix, 3)) (hc : Cond.constantLong own ix v ∈ tb) (k : V g L K own cc nL ret wl inj z res σ (pc + 3) lv (.long v :: st)) : V g L K own cc nL ret wl inj z res σ pc lv st := by
  obtain ⟨p, l, e, R, s, m, args, below, meth, c⟩ := z
  intro hF hW r σ' hr H locs ls hP hS hl
  exact lv_ldc2 hF.1 hF.2.1 hF.2.2.2.2.2.1 (hF.2.2.2.2.2.2.1 _ hc) hd (k hF hW r σ' hr H locs ls hP hS hl)
theorem v_istore_n {k0 : Fin 4} {i : Nat} {x : Int32} (hd : decode cc pc = .ok (.istore_n k0, 1)) (hi : (k0 : Nat) = i) (hn : i < nL) (h : ls1 i (.int x) lv = lv') (k : V g L K own cc nL ret wl inj z res σ (pc + 1) lv' st) : V g L K own cc nL ret wl inj z res σ pc lv (.int x :: st) := by
  obtain ⟨p, l, e, R, s, m, args, below, meth, c⟩ := z
  intro hF hW r σ' hr H locs ls hP hS hl
  exact lv_istore_n hF.1 hF.2.1 hd hi hl hn h (fun ls hl => k hF hW r σ' hr H locs ls hP hS hl)
theorem v_istore {i : Nat} {x : Int32} (hd : decode cc pc = .ok (.istore i, 2)) (hn : i < nL) (h : ls1 i (.int x) lv = lv') (k : V g L K own cc nL ret wl inj z res σ (pc + 2) lv' st) : V g L K own cc nL ret wl inj z res σ pc lv (.int x :: st) := by
  obtain ⟨p, l, e, R, s, m, args, below, meth, c⟩ := z
  intro hF hW r σ' hr H locs ls hP hS hl
  exact lv_istore hF.1 hF.2.1 hd hl hn h (fun ls hl => k hF hW r σ' hr H locs ls hP hS hl)
theorem v_lstore_n {k0 : Fin 4} {i : Nat} {x : Int64} (hd : decode cc pc = .ok (.lstore_n k0, 1)) (hi : (k0 : Nat) = i) (hn : i + 1 < nL) (h : ls2 i (.long x) lv = lv') (k : V g L K own cc nL ret wl inj z res σ (pc + 1) lv' st) : V g L K own cc nL ret wl inj z res σ pc lv (.long x :: st) := by
  obtain ⟨p, l, e, R, s, m, args, below, meth, c⟩ := z
  intro hF hW r σ' hr H locs ls hP hS hl
  exact lv_lstore_n hF.1 hF.2.1 hd hi hl hn h (fun ls hl => k hF hW r σ' hr H locs ls hP hS hl)
theorem v_lstore {i : Nat} {x : Int64} (hd : decode cc pc = .ok (.lstore i, 2)) (hn : i + 1 < nL) (h : ls2 i (.long x) lv = lv') (k : V g L K own cc nL ret wl inj z res σ (pc + 2) lv' st) : V g L K own cc nL ret wl inj z res σ pc lv (.long x :: st) := by
  obtain ⟨p, l, e, R, s, m, args, below, meth, c⟩ := z
  intro hF hW r σ' hr H locs ls hP hS hl
  exact lv_lstore hF.1 hF.2.1 hd hl hn h (fun ls hl => k hF hW r σ' hr H locs ls hP hS hl)
theorem v_astore_n {k0 : Fin 4} {i : Nat} {x : Nat} (hd : decode cc pc = .ok (.astore_n k0, 1)) (hi : (k0 : Nat) = i) (hn : i < nL) (h : ls1 i (.ref x) lv = lv') (k : V g L K own cc nL ret wl inj z res σ (pc + 1) lv' st) : V g L K own cc nL ret wl inj z res σ pc lv (.ref x :: st) := by
  obtain ⟨p, l, e, R, s, m, args, below, meth, c⟩ := z
  intro hF hW r σ' hr H locs ls hP hS hl
  exact lv_astore_n hF.1 hF.2.1 hd hi hl hn h (fun ls hl => k hF hW r σ' hr H locs ls hP hS hl)
theorem v_astore {i : Nat} {x : Nat} (hd : decode cc pc = .ok (.astore i, 2)) (hn : i < nL) (h : ls1 i (.ref x) lv = lv') (k : V g L K own cc nL ret wl inj z res σ (pc + 2) lv' st) : V g L K own cc nL ret wl inj z res σ pc lv (.ref x :: st) := by
  obtain ⟨p, l, e, R, s, m, args, below, meth, c⟩ := z
  intro hF hW r σ' hr H locs ls hP hS hl
  exact lv_astore hF.1 hF.2.1 hd hl hn h (fun ls hl => k hF hW r σ' hr H locs ls hP hS hl)
theorem v_iinc {i : Nat} {n : Int} {x w : Int32} (hd : decode cc pc = .ok (.iinc i n, 3)) (hx : lk lv i = some (.int x)) (hv : Int32.ofInt n = w) (hn : i < nL) (h : ls1 i (.int (x + w)) lv = lv') (k : V g L K own cc nL ret wl inj z res σ (pc + 3) lv' st) : V g L K own cc nL ret wl inj z res σ pc lv st := by
  obtain ⟨p, l, e, R, s, m, args, below, meth, c⟩ := z
  intro hF hW r σ' hr H locs ls hP hS hl
  obtain ⟨k0, hk0⟩ := List.getElem?_of_mem (lk_mem hx)
  exact lv_iinc hF.1 hF.2.1 hd hl hk0 (by rw [hv]) hn h (fun ls hl => k hF hW r σ' hr H locs ls hP hS hl)
theorem v_iadd {x y : Int32} (hd : decode cc pc = .ok (.iadd, 1)) (k : V g L K own cc nL ret wl inj z res σ (pc + 1) lv (.int (x + y) :: st)) : V g L K own cc nL ret wl inj z res σ pc lv (.int y :: .int x :: st) := by
  obtain ⟨p, l, e, R, s, m, args, below, meth, c⟩ := z
  intro hF hW r σ' hr H locs ls hP hS hl
  exact lv_iadd hF.1 hF.2.1 hd (k hF hW r σ' hr H locs ls hP hS hl)
theorem v_isub {x y : Int32} (hd : decode cc pc = .ok (.isub, 1)) (k : V g L K own cc nL ret wl inj z res σ (pc + 1) lv (.int (x - y) :: st)) : V g L K own cc nL ret wl inj z res σ pc lv (.int y :: .int x :: st) := by
  obtain ⟨p, l, e, R, s, m, args, below, meth, c⟩ := z
  intro hF hW r σ' hr H locs ls hP hS hl
  exact lv_isub hF.1 hF.2.1 hd (k hF hW r σ' hr H locs ls hP hS hl)
theorem v_imul {x y : Int32} (hd : decode cc pc = .ok (.imul, 1)) (k : V g L K own cc nL ret wl inj z res σ (pc + 1) lv (.int (x * y) :: st)) : V g L K own cc nL ret wl inj z res σ pc lv (.int y :: .int x :: st) := by
  obtain ⟨p, l, e, R, s, m, args, below, meth, c⟩ := z
  intro hF hW r σ' hr H locs ls hP hS hl
  exact lv_imul hF.1 hF.2.1 hd (k hF hW r σ' hr H locs ls hP hS hl)
theorem v_iand {x y : Int32} (hd : decode cc pc = .ok (.iand, 1)) (k : V g L K own cc nL ret wl inj z res σ (pc + 1) lv (.int (x &&& y) :: st)) : V g L K own cc nL ret wl inj z res σ pc lv (.int y :: .int x :: st) := by
  obtain ⟨p, l, e, R, s, m, args, below, meth, c⟩ := z
  intro hF hW r σ' hr H locs ls hP hS hl
  exact lv_iand hF.1 hF.2.1 hd (k hF hW r σ' hr H locs ls hP hS hl)
theorem v_ior {x y : Int32} (hd : decode cc pc = .ok (.ior, 1)) (k : V g L K own cc nL ret wl inj z res σ (pc + 1) lv (.int (x ||| y) :: st)) : V g L K own cc nL ret wl inj z res σ pc lv (.int y :: .int x :: st) := by
  obtain ⟨p, l, e, R, s, m, args, below, meth, c⟩ := z
  intro hF hW r σ' hr H locs ls hP hS hl
  exact lv_ior hF.1 hF.2.1 hd (k hF hW r σ' hr H locs ls hP hS hl)
theorem v_ixor {x y : Int32} (hd : decode cc pc = .ok (.ixor, 1)) (k : V g L K own cc nL ret wl inj z res σ (pc + 1) lv (.int (x ^^^ y) :: st)) : V g L K own cc nL ret wl inj z res σ pc lv (.int y :: .int x :: st) := by
  obtain ⟨p, l, e, R, s, m, args, below, meth, c⟩ := z
  intro hF hW r σ' hr H locs ls hP hS hl
  exact lv_ixor hF.1 hF.2.1 hd (k hF hW r σ' hr H locs ls hP hS hl)
theorem v_ishl {x y : Int32} (hd : decode cc pc = .ok (.ishl, 1)) (k : V g L K own cc nL ret wl inj z res σ (pc + 1) lv (.int (slI x y) :: st)) : V g L K own cc nL ret wl inj z res σ pc lv (.int y :: .int x :: st) := by
  obtain ⟨p, l, e, R, s, m, args, below, meth, c⟩ := z
  intro hF hW r σ' hr H locs ls hP hS hl
  exact lv_ishl hF.1 hF.2.1 hd (k hF hW r σ' hr H locs ls hP hS hl)
theorem v_ishr {x y : Int32} (hd : decode cc pc = .ok (.ishr, 1)) (k : V g L K own cc nL ret wl inj z res σ (pc + 1) lv (.int (srI x y) :: st)) : V g L K own cc nL ret wl inj z res σ pc lv (.int y :: .int x :: st) := by
  obtain ⟨p, l, e, R, s, m, args, below, meth, c⟩ := z
  intro hF hW r σ' hr H locs ls hP hS hl
  exact lv_ishr hF.1 hF.2.1 hd (k hF hW r σ' hr H locs ls hP hS hl)
theorem v_iushr {x y : Int32} (hd : decode cc pc = .ok (.iushr, 1)) (k : V g L K own cc nL ret wl inj z res σ (pc + 1) lv (.int (usI x y) :: st)) : V g L K own cc nL ret wl inj z res σ pc lv (.int y :: .int x :: st) := by
  obtain ⟨p, l, e, R, s, m, args, below, meth, c⟩ := z
  intro hF hW r σ' hr H locs ls hP hS hl
  exact lv_iushr hF.1 hF.2.1 hd rfl (k hF hW r σ' hr H locs ls hP hS hl)
theorem v_idiv {x y : Int32} (hd : decode cc pc = .ok (.idiv, 1)) (hne : ¬ y = 0) (k : V g L K own cc nL ret wl inj z res σ (pc + 1) lv (.int (x / y) :: st)) : V g L K own cc nL ret wl inj z res σ pc lv (.int y :: .int x :: st) := by
  obtain ⟨p, l, e, R, s, m, args, below, meth, c⟩ := z
  intro hF hW r σ' hr H locs ls hP hS hl
  exact lv_idiv hF.1 hF.2.1 hd hne (k hF hW r σ' hr H locs ls hP hS hl)
theorem v_idivG {x y : Int32} (hd : decode cc pc = .ok (.idiv, 1)) (k : V g L K own cc nL ret wl inj z res σ (pc + 1) lv (.int (x / y) :: st)) : V g L K own cc nL ret wl inj z (if ¬ y = 0 then res else none) σ pc lv (.int y :: .int x :: st) := by
  obtain ⟨p, l, e, R, s, m, args, below, meth, c⟩ := z
  intro hF hW r σ' hr H locs ls hP hS hl
  by_cases hne : ¬ y = 0
  · rw [if_pos hne] at hr
    exact lv_idiv hF.1 hF.2.1 hd hne (k hF hW r σ' hr H locs ls hP hS hl)
  · rw [if_neg hne] at hr; cases hr
theorem v_irem {x y : Int32} (hd : decode cc pc = .ok (.irem, 1)) (hne : ¬ y = 0) (k : V g L K own cc nL ret wl inj z res σ (pc + 1) lv (.int (rI x y) :: st)) : V g L K own cc nL ret wl inj z res σ pc lv (.int y :: .int x :: st) := by
  obtain ⟨p, l, e, R, s, m, args, below, meth, c⟩ := z
  intro hF hW r σ' hr H locs ls hP hS hl
  exact lv_irem hF.1 hF.2.1 hd hne (k hF hW r σ' hr H locs ls hP hS hl)
theorem v_iremG {x y : Int32} (hd : decode cc pc = .ok (.irem, 1)) (k : V g L K own cc nL ret wl inj z res σ (pc + 1) lv (.int (rI x y) :: st)) : V g L K own cc nL ret wl inj z (if ¬ y = 0 then res else none) σ pc lv (.int y :: .int x :: st) := by
  obtain ⟨p, l, e, R, s, m, args, below, meth, c⟩ := z
  intro hF hW r σ' hr H locs ls hP hS hl
  by_cases hne : ¬ y = 0
  · rw [if_pos hne] at hr
    exact lv_irem hF.1 hF.2.1 hd hne (k hF hW r σ' hr H locs ls hP hS hl)
  · rw [if_neg hne] at hr; cases hr
theorem v_ineg {x : Int32} (hd : decode cc pc = .ok (.ineg, 1)) (k : V g L K own cc nL ret wl inj z res σ (pc + 1) lv (.int (-x) :: st)) : V g L K own cc nL ret wl inj z res σ pc lv (.int x :: st) := by
  obtain ⟨p, l, e, R, s, m, args, below, meth, c⟩ := z
  intro hF hW r σ' hr H locs ls hP hS hl
  exact lv_ineg hF.1 hF.2.1 hd (k hF hW r σ' hr H locs ls hP hS hl)
theorem v_ladd {x y : Int64} (hd : decode cc pc = .ok (.ladd, 1)) (k : V g L K own cc nL ret wl inj z res σ (pc + 1) lv (.long (x + y) :: st)) : V g L K own cc nL ret wl inj z res σ pc lv (.long y :: .long x :: st) := by
  obtain ⟨p, l, e, R, s, m, args, below, meth, c⟩ := z
  intro hF hW r σ' hr H locs ls hP hS hl
  exact lv_ladd hF.1 hF.2.1 hd (k hF hW r σ' hr H locs ls hP hS hl)
theorem v_lsub {x y : Int64} (hd : decode cc pc = .ok (.lsub, 1)) (k : V g L K own cc nL ret wl inj z res σ (pc + 1) lv (.long (x - y) :: st)) : V g L K own cc nL ret wl inj z res σ pc lv (.long y :: .long x :: st) := by
  obtain ⟨p, l, e, R, s, m, args, below, meth, c⟩ := z
  intro hF hW r σ' hr H locs ls hP hS hl
  exact lv_lsub hF.1 hF.2.1 hd (k hF hW r σ' hr H locs ls hP hS hl)
theorem v_lmul {x y : Int64} (hd : decode cc pc = .ok (.lmul, 1)) (k : V g L K own cc nL ret wl inj z res σ (pc + 1) lv (.long (x * y) :: st)) : V g L K own cc nL ret wl inj z res σ pc lv (.long y :: .long x :: st) := by
  obtain ⟨p, l, e, R, s, m, args, below, meth, c⟩ := z
  intro hF hW r σ' hr H locs ls hP hS hl
  exact lv_lmul hF.1 hF.2.1 hd (k hF hW r σ' hr H locs ls hP hS hl)
theorem v_land {x y : Int64} (hd : decode cc pc = .ok (.land, 1)) (k : V g L K own cc nL ret wl inj z res σ (pc + 1) lv (.long (x &&& y) :: st)) : V g L K own cc nL ret wl inj z res σ pc lv (.long y :: .long x :: st) := by
  obtain ⟨p, l, e, R, s, m, args, below, meth, c⟩ := z
  intro hF hW r σ' hr H locs ls hP hS hl
  exact lv_land hF.1 hF.2.1 hd (k hF hW r σ' hr H locs ls hP hS hl)
theorem v_lor {x y : Int64} (hd : decode cc pc = .ok (.lor, 1)) (k : V g L K own cc nL ret wl inj z res σ (pc + 1) lv (.long (x ||| y) :: st)) : V g L K own cc nL ret wl inj z res σ pc lv (.long y :: .long x :: st) := by
  obtain ⟨p, l, e, R, s, m, args, below, meth, c⟩ := z
  intro hF hW r σ' hr H locs ls hP hS hl
  exact lv_lor hF.1 hF.2.1 hd (k hF hW r σ' hr H locs ls hP hS hl)
theorem v_lxor {x y : Int64} (hd : decode cc pc = .ok (.lxor, 1)) (k : V g L K own cc nL ret wl inj z res σ (pc + 1) lv (.long (x ^^^ y) :: st)) : V g L K own cc nL ret wl inj z res σ pc lv (.long y :: .long x :: st) := by
  obtain ⟨p, l, e, R, s, m, args, below, meth, c⟩ := z
  intro hF hW r σ' hr H locs ls hP hS hl
  exact lv_lxor hF.1 hF.2.1 hd (k hF hW r σ' hr H locs ls hP hS hl)
theorem v_lshl {x : Int64} {y : Int32} (hd : decode cc pc = .ok (.lshl, 1)) (k : V g L K own cc nL ret wl inj z res σ (pc + 1) lv (.long (slL x y) :: st)) : V g L K own cc nL ret wl inj z res σ pc lv (.int y :: .long x :: st) := by
  obtain ⟨p, l, e, R, s, m, args, below, meth, c⟩ := z
  intro hF hW r σ' hr H locs ls hP hS hl
  exact lv_lshl hF.1 hF.2.1 hd rfl (k hF hW r σ' hr H locs ls hP hS hl)
theorem v_lshr {x : Int64} {y : Int32} (hd : decode cc pc = .ok (.lshr, 1)) (k : V g L K own cc nL ret wl inj z res σ (pc + 1) lv (.long (srL x y) :: st)) : V g L K own cc nL ret wl inj z res σ pc lv (.int y :: .long x :: st) := by
  obtain ⟨p, l, e, R, s, m, args, below, meth, c⟩ := z
  intro hF hW r σ' hr H locs ls hP hS hl
  exact lv_lshr hF.1 hF.2.1 hd rfl (k hF hW r σ' hr H locs ls hP hS hl)
theorem v_lushr {x : Int64} {y : Int32} (hd : decode cc pc = .ok (.lushr, 1)) (k : V g L K own cc nL ret wl inj z res σ (pc + 1) lv (.long (usL x y) :: st)) : V g L K own cc nL ret wl inj z res σ pc lv (.int y :: .long x :: st) := by
  obtain ⟨p, l, e, R, s, m, args, below, meth, c⟩ := z
  intro hF hW r σ' hr H locs ls hP hS hl
  exact lv_lushr hF.1 hF.2.1 hd rfl (k hF hW r σ' hr H locs ls hP hS hl)
theorem v_ldiv {x y : Int64} (hd : decode cc pc = .ok (.ldiv, 1)) (hne : ¬ y = 0) (k : V g L K own cc nL ret wl inj z res σ (pc + 1) lv (.long (x / y) :: st)) : V g L K own cc nL ret wl inj z res σ pc lv (.long y :: .long x :: st) := by
  obtain ⟨p, l, e, R, s, m, args, below, meth, c⟩ := z
  intro hF hW r σ' hr H locs ls hP hS hl
  exact lv_ldiv hF.1 hF.2.1 hd hne (k hF hW r σ' hr H locs ls hP hS hl)
theorem v_ldivG {x y : Int64} (hd : decode cc pc = .ok (.ldiv, 1)) (k : V g L K own cc nL ret wl inj z res σ (pc + 1) lv (.long (x / y) :: st)) : V g L K own cc nL ret wl inj z (if ¬ y = 0 then res else none) σ pc lv (.long y :: .long x :: st) := by
  obtain ⟨p, l, e, R, s, m, args, below, meth, c⟩ := z
  intro hF hW r σ' hr H locs ls hP hS hl
  by_cases hne : ¬ y = 0
  · rw [if_pos hne] at hr
    exact lv_ldiv hF.1 hF.2.1 hd hne (k hF hW r σ' hr H locs ls hP hS hl)
  · rw [if_neg hne] at hr; cases hr
theorem v_lrem {x y : Int64} (hd : decode cc pc = .ok (.lrem, 1)) (hne : ¬ y = 0) (k : V g L K own cc nL ret wl inj z res σ (pc + 1) lv (.long (rL x y) :: st)) : V g L K own cc nL ret wl inj z res σ pc lv (.long y :: .long x :: st) := by
  obtain ⟨p, l, e, R, s, m, args, below, meth, c⟩ := z
  intro hF hW r σ' hr H locs ls hP hS hl
  exact lv_lrem hF.1 hF.2.1 hd hne (k hF hW r σ' hr H locs ls hP hS hl)
theorem v_lremG {x y : Int64} (hd : decode cc pc = .ok (.lrem, 1)) (k : V g L K own cc nL ret wl inj z res σ (pc + 1) lv (.long (rL x y) :: st)) : V g L K own cc nL ret wl inj z (if ¬ y = 0 then res else none) σ pc lv (.long y :: .long x :: st) := by
  obtain ⟨p, l, e, R, s, m, args, below, meth, c⟩ := z
  intro hF hW r σ' hr H locs ls hP hS hl
  by_cases hne : ¬ y = 0
  · rw [if_pos hne] at hr
    exact lv_lrem hF.1 hF.2.1 hd hne (k hF hW r σ' hr H locs ls hP hS hl)
  · rw [if_neg hne] at hr; cases hr
theorem v_i2l {x : Int32} (hd : decode cc pc = .ok (.i2l, 1)) (k : V g L K own cc nL ret wl inj z res σ (pc + 1) lv (.long x.toInt64 :: st)) : V g L K own cc nL ret wl inj z res σ pc lv (.int x :: st) := by
  obtain ⟨p, l, e, R, s, m, args, below, meth, c⟩ := z
  intro hF hW r σ' hr H locs ls hP hS hl
  exact lv_i2l hF.1 hF.2.1 hd rfl (k hF hW r σ' hr H locs ls hP hS hl)
theorem v_l2i {x : Int64} (hd : decode cc pc = .ok (.l2i, 1)) (k : V g L K own cc nL ret wl inj z res σ (pc + 1) lv (.int x.toInt32 :: st)) : V g L K own cc nL ret wl inj z res σ pc lv (.long x :: st) := by
  obtain ⟨p, l, e, R, s, m, args, below, meth, c⟩ := z
  intro hF hW r σ' hr H locs ls hP hS hl
  exact lv_l2i hF.1 hF.2.1 hd rfl (k hF hW r σ' hr H locs ls hP hS hl)
theorem v_i2b {x : Int32} (hd : decode cc pc = .ok (.i2b, 1)) (k : V g L K own cc nL ret wl inj z res σ (pc + 1) lv (.int x.toInt8.toInt32 :: st)) : V g L K own cc nL ret wl inj z res σ pc lv (.int x :: st) := by
  obtain ⟨p, l, e, R, s, m, args, below, meth, c⟩ := z
  intro hF hW r σ' hr H locs ls hP hS hl
  exact lv_i2b hF.1 hF.2.1 hd rfl (k hF hW r σ' hr H locs ls hP hS hl)
theorem v_i2s {x : Int32} (hd : decode cc pc = .ok (.i2s, 1)) (k : V g L K own cc nL ret wl inj z res σ (pc + 1) lv (.int x.toInt16.toInt32 :: st)) : V g L K own cc nL ret wl inj z res σ pc lv (.int x :: st) := by
  obtain ⟨p, l, e, R, s, m, args, below, meth, c⟩ := z
  intro hF hW r σ' hr H locs ls hP hS hl
  exact lv_i2s hF.1 hF.2.1 hd rfl (k hF hW r σ' hr H locs ls hP hS hl)
theorem v_i2c {x : Int32} (hd : decode cc pc = .ok (.i2c, 1)) (k : V g L K own cc nL ret wl inj z res σ (pc + 1) lv (.int (x.toUInt32 % 65536).toInt32 :: st)) : V g L K own cc nL ret wl inj z res σ pc lv (.int x :: st) := by
  obtain ⟨p, l, e, R, s, m, args, below, meth, c⟩ := z
  intro hF hW r σ' hr H locs ls hP hS hl
  exact lv_i2c hF.1 hF.2.1 hd rfl (k hF hW r σ' hr H locs ls hP hS hl)
theorem v_lcmp {x y : Int64} (hd : decode cc pc = .ok (.lcmp, 1)) (k : V g L K own cc nL ret wl inj z res σ (pc + 1) lv (.int (lg_cmp x y) :: st)) : V g L K own cc nL ret wl inj z res σ pc lv (.long y :: .long x :: st) := by
  obtain ⟨p, l, e, R, s, m, args, below, meth, c⟩ := z
  intro hF hW r σ' hr H locs ls hP hS hl
  exact W.lcmp hF.1 hF.2.1 hd (k hF hW r σ' hr H locs ls hP hS hl)
theorem v_dup {va : Value} (hd : decode cc pc = .ok (.dup, 1)) (hva : va.category = 1) (k : V g L K own cc nL ret wl inj z res σ (pc + 1) lv (va :: va :: st)) : V g L K own cc nL ret wl inj z res σ pc lv (va :: st) := by
  obtain ⟨p, l, e, R, s, m, args, below, meth, c⟩ := z
  intro hF hW r σ' hr H locs ls hP hS hl
  exact lv_dup hF.1 hF.2.1 hd hva (k hF hW r σ' hr H locs ls hP hS hl)
theorem v_pop {va : Value} (hd : decode cc pc = .ok (.pop, 1)) (hva : va.category = 1) (k : V g L K own cc nL ret wl inj z res σ (pc + 1) lv st) : V g L K own cc nL ret wl inj z res σ pc lv (va :: st) := by
  obtain ⟨p, l, e, R, s, m, args, below, meth, c⟩ := z
  intro hF hW r σ' hr H locs ls hP hS hl
  exact lv_pop hF.1 hF.2.1 hd hva (k hF hW r σ' hr H locs ls hP hS hl)
theorem v_if_eq {x : Int32} {off : Int} {tgt : Nat} (hd : decode cc pc = .ok (.ifCond .eq off, 3)) (ht : (pc : Int) + off = (tgt : Int)) (k1 : V g L K own cc nL ret wl inj z r1 σ tgt lv st) (k2 : V g L K own cc nL ret wl inj z r2 σ (pc + 3) lv st) : V g L K own cc nL ret wl inj z (if x = 0 then r1 else r2) σ pc lv (.int x :: st) := by
  obtain ⟨p, l, e, R, s, m, args, below, meth, c⟩ := z
  intro hF hW r σ' hr H locs ls hP hS hl
  refine lv_if_eq hF.1 hF.2.1 hd ht (fun hc => ?_) (fun hc => ?_)
  · exact k1 hF hW r σ' (by rw [← hr]; first | exact (if_pos hc).symm | simp_all) H locs ls hP hS hl
  · exact k2 hF hW r σ' (by rw [← hr]; first | exact (if_neg hc).symm | simp_all) H locs ls hP hS hl
theorem v_if_ne {x : Int32} {off : Int} {tgt : Nat} (hd : decode cc pc = .ok (.ifCond .ne off, 3)) (ht : (pc : Int) + off = (tgt : Int)) (k1 : V g L K own cc nL ret wl inj z r1 σ tgt lv st) (k2 : V g L K own cc nL ret wl inj z r2 σ (pc + 3) lv st) : V g L K own cc nL ret wl inj z (if x ≠ 0 then r1 else r2) σ pc lv (.int x :: st) := by
  obtain ⟨p, l, e, R, s, m, args, below, meth, c⟩ := z
  intro hF hW r σ' hr H locs ls hP hS hl
  refine lv_if_ne hF.1 hF.2.1 hd ht (fun hc => ?_) (fun hc => ?_)
  · exact k1 hF hW r σ' (by rw [← hr]; first | exact (if_pos hc).symm | simp_all) H locs ls hP hS hl
  · exact k2 hF hW r σ' (by rw [← hr]; first | exact (if_neg hc).symm | simp_all) H locs ls hP hS hl
theorem v_if_lt {x : Int32} {off : Int} {tgt : Nat} (hd : decode cc pc = .ok (.ifCond .lt off, 3)) (ht : (pc : Int) + off = (tgt : Int)) (k1 : V g L K own cc nL ret wl inj z r1 σ tgt lv st) (k2 : V g L K own cc nL ret wl inj z r2 σ (pc + 3) lv st) : V g L K own cc nL ret wl inj z (if x < 0 then r1 else r2) σ pc lv (.int x :: st) := by
  obtain ⟨p, l, e, R, s, m, args, below, meth, c⟩ := z
  intro hF hW r σ' hr H locs ls hP hS hl
  refine lv_if_lt hF.1 hF.2.1 hd ht (fun hc => ?_) (fun hc => ?_)
  · exact k1 hF hW r σ' (by rw [← hr]; first | exact (if_pos hc).symm | simp_all) H locs ls hP hS hl
  · exact k2 hF hW r σ' (by rw [← hr]; first | exact (if_neg hc).symm | simp_all) H locs ls hP hS hl
theorem v_if_ge {x : Int32} {off : Int} {tgt : Nat} (hd : decode cc pc = .ok (.ifCond .ge off, 3)) (ht : (pc : Int) + off = (tgt : Int)) (k1 : V g L K own cc nL ret wl inj z r1 σ tgt lv st) (k2 : V g L K own cc nL ret wl inj z r2 σ (pc + 3) lv st) : V g L K own cc nL ret wl inj z (if 0 ≤ x then r1 else r2) σ pc lv (.int x :: st) := by
  obtain ⟨p, l, e, R, s, m, args, below, meth, c⟩ := z
  intro hF hW r σ' hr H locs ls hP hS hl
  refine lv_if_ge hF.1 hF.2.1 hd ht (fun hc => ?_) (fun hc => ?_)
  · exact k1 hF hW r σ' (by rw [← hr]; first | exact (if_pos hc).symm | simp_all) H locs ls hP hS hl
  · exact k2 hF hW r σ' (by rw [← hr]; first | exact (if_neg hc).symm | simp_all) H locs ls hP hS hl
theorem v_if_gt {x : Int32} {off : Int} {tgt : Nat} (hd : decode cc pc = .ok (.ifCond .gt off, 3)) (ht : (pc : Int) + off = (tgt : Int)) (k1 : V g L K own cc nL ret wl inj z r1 σ tgt lv st) (k2 : V g L K own cc nL ret wl inj z r2 σ (pc + 3) lv st) : V g L K own cc nL ret wl inj z (if 0 < x then r1 else r2) σ pc lv (.int x :: st) := by
  obtain ⟨p, l, e, R, s, m, args, below, meth, c⟩ := z
  intro hF hW r σ' hr H locs ls hP hS hl
  refine lv_if_gt hF.1 hF.2.1 hd ht (fun hc => ?_) (fun hc => ?_)
  · exact k1 hF hW r σ' (by rw [← hr]; first | exact (if_pos hc).symm | simp_all) H locs ls hP hS hl
  · exact k2 hF hW r σ' (by rw [← hr]; first | exact (if_neg hc).symm | simp_all) H locs ls hP hS hl
theorem v_if_le {x : Int32} {off : Int} {tgt : Nat} (hd : decode cc pc = .ok (.ifCond .le off, 3)) (ht : (pc : Int) + off = (tgt : Int)) (k1 : V g L K own cc nL ret wl inj z r1 σ tgt lv st) (k2 : V g L K own cc nL ret wl inj z r2 σ (pc + 3) lv st) : V g L K own cc nL ret wl inj z (if x ≤ 0 then r1 else r2) σ pc lv (.int x :: st) := by
  obtain ⟨p, l, e, R, s, m, args, below, meth, c⟩ := z
  intro hF hW r σ' hr H locs ls hP hS hl
  refine lv_if_le hF.1 hF.2.1 hd ht (fun hc => ?_) (fun hc => ?_)
  · exact k1 hF hW r σ' (by rw [← hr]; first | exact (if_pos hc).symm | simp_all) H locs ls hP hS hl
  · exact k2 hF hW r σ' (by rw [← hr]; first | exact (if_neg hc).symm | simp_all) H locs ls hP hS hl
theorem v_icmp_eq {x y : Int32} {off : Int} {tgt : Nat} (hd : decode cc pc = .ok (.if_icmp .eq off, 3)) (ht : (pc : Int) + off = (tgt : Int)) (k1 : V g L K own cc nL ret wl inj z r1 σ tgt lv st) (k2 : V g L K own cc nL ret wl inj z r2 σ (pc + 3) lv st) : V g L K own cc nL ret wl inj z (if x = y then r1 else r2) σ pc lv (.int y :: .int x :: st) := by
  obtain ⟨p, l, e, R, s, m, args, below, meth, c⟩ := z
  intro hF hW r σ' hr H locs ls hP hS hl
  refine lv_icmp_eq hF.1 hF.2.1 hd ht (fun hc => ?_) (fun hc => ?_)
  · exact k1 hF hW r σ' (by rw [← hr]; first | exact (if_pos hc).symm | simp_all) H locs ls hP hS hl
  · exact k2 hF hW r σ' (by rw [← hr]; first | exact (if_neg hc).symm | simp_all) H locs ls hP hS hl
theorem v_icmp_ne {x y : Int32} {off : Int} {tgt : Nat} (hd : decode cc pc = .ok (.if_icmp .ne off, 3)) (ht : (pc : Int) + off = (tgt : Int)) (k1 : V g L K own cc nL ret wl inj z r1 σ tgt lv st) (k2 : V g L K own cc nL ret wl inj z r2 σ (pc + 3) lv st) : V g L K own cc nL ret wl inj z (if x ≠ y then r1 else r2) σ pc lv (.int y :: .int x :: st) := by
  obtain ⟨p, l, e, R, s, m, args, below, meth, c⟩ := z
  intro hF hW r σ' hr H locs ls hP hS hl
  refine lv_icmp_ne hF.1 hF.2.1 hd ht (fun hc => ?_) (fun hc => ?_)
  · exact k1 hF hW r σ' (by rw [← hr]; first | exact (if_pos hc).symm | simp_all) H locs ls hP hS hl
  · exact k2 hF hW r σ' (by rw [← hr]; first | exact (if_neg hc).symm | simp_all) H locs ls hP hS hl
theorem v_icmp_lt {x y : Int32} {off : Int} {tgt : Nat} (hd : decode cc pc = .ok (.if_icmp .lt off, 3)) (ht : (pc : Int) + off = (tgt : Int)) (k1 : V g L K own cc nL ret wl inj z r1 σ tgt lv st) (k2 : V g L K own cc nL ret wl inj z r2 σ (pc + 3) lv st) : V g L K own cc nL ret wl inj z (if x < y then r1 else r2) σ pc lv (.int y :: .int x :: st) := by
  obtain ⟨p, l, e, R, s, m, args, below, meth, c⟩ := z
  intro hF hW r σ' hr H locs ls hP hS hl
  refine lv_icmp_lt hF.1 hF.2.1 hd ht (fun hc => ?_) (fun hc => ?_)
  · exact k1 hF hW r σ' (by rw [← hr]; first | exact (if_pos hc).symm | simp_all) H locs ls hP hS hl
  · exact k2 hF hW r σ' (by rw [← hr]; first | exact (if_neg hc).symm | simp_all) H locs ls hP hS hl
theorem v_icmp_ge {x y : Int32} {off : Int} {tgt : Nat} (hd : decode cc pc = .ok (.if_icmp .ge off, 3)) (ht : (pc : Int) + off = (tgt : Int)) (k1 : V g L K own cc nL ret wl inj z r1 σ tgt lv st) (k2 : V g L K own cc nL ret wl inj z r2 σ (pc + 3) lv st) : V g L K own cc nL ret wl inj z (if y ≤ x then r1 else r2) σ pc lv (.int y :: .int x :: st) := by
  obtain ⟨p, l, e, R, s, m, args, below, meth, c⟩ := z
  intro hF hW r σ' hr H locs ls hP hS hl
  refine lv_icmp_ge hF.1 hF.2.1 hd ht (fun hc => ?_) (fun hc => ?_)
  · exact k1 hF hW r σ' (by rw [← hr]; first | exact (if_pos hc).symm | simp_all) H locs ls hP hS hl
  · exact k2 hF hW r σ' (by rw [← hr]; first | exact (if_neg hc).symm | simp_all) H locs ls hP hS hl
theorem v_icmp_gt {x y : Int32} {off : Int} {tgt : Nat} (hd : decode cc pc = .ok (.if_icmp .gt off, 3)) (ht : (pc : Int) + off = (tgt : Int)) (k1 : V g L K own cc nL ret wl inj z r1 σ tgt lv st) (k2 : V g L K own cc nL ret wl inj z r2 σ (pc + 3) lv st) : V g L K own cc nL ret wl inj z (if y < x then r1 else r2) σ pc lv (.int y :: .int x :: st) := by
  obtain ⟨p, l, e, R, s, m, args, below, meth, c⟩ := z
  intro hF hW r σ' hr H locs ls hP hS hl
  refine lv_icmp_gt hF.1 hF.2.1 hd ht (fun hc => ?_) (fun hc => ?_)
  · exact k1 hF hW r σ' (by rw [← hr]; first | exact (if_pos hc).symm | simp_all) H locs ls hP hS hl
  · exact k2 hF hW r σ' (by rw [← hr]; first | exact (if_neg hc).symm | simp_all) H locs ls hP hS hl
theorem v_icmp_le {x y : Int32} {off : Int} {tgt : Nat} (hd : decode cc pc = .ok (.if_icmp .le off, 3)) (ht : (pc : Int) + off = (tgt : Int)) (k1 : V g L K own cc nL ret wl inj z r1 σ tgt lv st) (k2 : V g L K own cc nL ret wl inj z r2 σ (pc + 3) lv st) : V g L K own cc nL ret wl inj z (if x ≤ y then r1 else r2) σ pc lv (.int y :: .int x :: st) := by
  obtain ⟨p, l, e, R, s, m, args, below, meth, c⟩ := z
  intro hF hW r σ' hr H locs ls hP hS hl
  refine lv_icmp_le hF.1 hF.2.1 hd ht (fun hc => ?_) (fun hc => ?_)
  · exact k1 hF hW r σ' (by rw [← hr]; first | exact (if_pos hc).symm | simp_all) H locs ls hP hS hl
  · exact k2 hF hW r σ' (by rw [← hr]; first | exact (if_neg hc).symm | simp_all) H locs ls hP hS hl
theorem v_goto {off : Int} {tgt : Nat} (hd : decode cc pc = .ok (.goto off, 3)) (ht : (pc : Int) + off = (tgt : Int)) (k : V g L K own cc nL ret wl inj z res σ tgt lv st) : V g L K own cc nL ret wl inj z res σ pc lv st := by
  obtain ⟨p, l, e, R, s, m, args, below, meth, c⟩ := z
  intro hF hW r σ' hr H locs ls hP hS hl
  exact lv_goto hF.1 hF.2.1 hd ht (k hF hW r σ' hr H locs ls hP hS hl)
theorem v_ifnull {x : Nat} {off : Int} (hd : decode cc pc = .ok (.ifnull off, 3)) (k : V g L K own cc nL ret wl inj z res σ (pc + 3) lv st) : V g L K own cc nL ret wl inj z res σ pc lv (.ref x :: st) := by
  obtain ⟨p, l, e, R, s, m, args, below, meth, c⟩ := z
  intro hF hW r σ' hr H locs ls hP hS hl
  exact lv_ifnull hF.1 hF.2.1 hd (k hF hW r σ' hr H locs ls hP hS hl)
theorem v_ifnullN {off : Int} {tgt : Nat} (hd : decode cc pc = .ok (.ifnull off, 3)) (ht : (pc : Int) + off = (tgt : Int)) (k : V g L K own cc nL ret wl inj z res σ tgt lv st) : V g L K own cc nL ret wl inj z res σ pc lv (.null :: st) := by
  obtain ⟨p, l, e, R, s, m, args, below, meth, c⟩ := z
  intro hF hW r σ' hr H locs ls hP hS hl
  exact lv_ifnullN hF.1 hF.2.1 hd ht (k hF hW r σ' hr H locs ls hP hS hl)
theorem v_ifnonnull {x : Nat} {off : Int} {tgt : Nat} (hd : decode cc pc = .ok (.ifnonnull off, 3)) (ht : (pc : Int) + off = (tgt : Int)) (k : V g L K own cc nL ret wl inj z res σ tgt lv st) : V g L K own cc nL ret wl inj z res σ pc lv (.ref x :: st) := by
  obtain ⟨p, l, e, R, s, m, args, below, meth, c⟩ := z
  intro hF hW r σ' hr H locs ls hP hS hl
  exact lv_ifnonnull hF.1 hF.2.1 hd ht (k hF hW r σ' hr H locs ls hP hS hl)
theorem v_ifnonnullN {off : Int} (hd : decode cc pc = .ok (.ifnonnull off, 3)) (k : V g L K own cc nL ret wl inj z res σ (pc + 3) lv st) : V g L K own cc nL ret wl inj z res σ pc lv (.null :: st) := by
  obtain ⟨p, l, e, R, s, m, args, below, meth, c⟩ := z
  intro hF hW r σ' hr H locs ls hP hS hl
  exact lv_ifnonnullN hF.1 hF.2.1 hd (k hF hW r σ' hr H locs ls hP hS hl)
theorem v_aconst_null  (hd : decode cc pc = .ok (.aconst_null, 1)) (k : V g L K own cc nL ret wl inj z res σ (pc + 1) lv (.null :: st)) : V g L K own cc nL ret wl inj z res σ pc lv st := by
  obtain ⟨p, l, e, R, s, m, args, below, meth, c⟩ := z
  intro hF hW r σ' hr H locs ls hP hS hl
  exact lv_null hF.1 hF.2.1 hd (k hF hW r σ' hr H locs ls hP hS hl)
theorem v_case {c : Prop} [Decidable c] (k1 : c → V g L K own cc nL ret wl inj z r1 σ pc lv st) (k2 : ¬ c → V g L K own cc nL ret wl inj z r2 σ pc lv st) : V g L K own cc nL ret wl inj z (if c then r1 else r2) σ pc lv st := by
  by_cases h : c
  · rw [if_pos h]; exact k1 h
  · rw [if_neg h]; exact k2 h
theorem v_tin {d lo hi : Int} {offs : Array Int} {len : Nat} {x : Int32} {off : Int} {tgt : Nat} {n : Int32} (hx : x = n) (hd : decode cc pc = .ok (.tableswitch d lo hi offs, len)) (h1 : ¬ n.toInt < lo) (h2 : ¬ hi < n.toInt) (ho : offs[(n.toInt - lo).toNat]? = some off) (ht : (pc : Int) + off = (tgt : Int)) (k : V g L K own cc nL ret wl inj z res σ tgt lv st) : V g L K own cc nL ret wl inj z res σ pc lv (.int x :: st) := by
  subst hx
  obtain ⟨p, l, e, R, s, m, args, below, meth, c⟩ := z
  intro hF hW r σ' hr H locs ls hP hS hl
  exact lv_tableIn hF.1 hF.2.1 hd h1 h2 ho ht (k hF hW r σ' hr H locs ls hP hS hl)
theorem v_tout {d lo hi : Int} {offs : Array Int} {len : Nat} {x : Int32} {tgt : Nat} (hd : decode cc pc = .ok (.tableswitch d lo hi offs, len)) (h : x.toInt < lo ∨ hi < x.toInt) (ht : (pc : Int) + d = (tgt : Int)) (k : V g L K own cc nL ret wl inj z res σ tgt lv st) : V g L K own cc nL ret wl inj z res σ pc lv (.int x :: st) := by
  obtain ⟨p, l, e, R, s, m, args, below, meth, c⟩ := z
  intro hF hW r σ' hr H locs ls hP hS hl
  exact lv_tableOut hF.1 hF.2.1 hd h ht (k hF hW r σ' hr H locs ls hP hS hl)

theorem tsw_out {x : Int32} (lo : Int) (n : Nat) (h : ∀ k : Nat, k < n → ¬ x.toInt = lo + (k : Int)) : x.toInt < lo ∨ lo + (n : Int) - 1 < x.toInt := by
  by_cases h1 : x.toInt < lo
  · exact Or.inl h1
  · refine Or.inr ?_
    by_cases h2 : lo + (n : Int) - 1 < x.toInt
    · exact h2
    · have h3 := h (x.toInt - lo).toNat (by omega)
      omega
theorem tsw_ne {x n : Int32} {a : Int} (h : ¬ x = n) (e : n.toInt = a) : ¬ x.toInt = a := fun q => h (Int32.toInt_inj.mp (q.trans e.symm))
theorem v_none : V g L K own cc nL ret wl inj z none σ pc lv st := by
  obtain ⟨p, l, e, R, s, m, args, below, meth, c⟩ := z
  intro hF hW r σ' hr H locs ls hP hS hl
  cases hr
theorem v_eq (h : res = r1) (k : V g L K own cc nL ret wl inj z r1 σ pc lv st) : V g L K own cc nL ret wl inj z res σ pc lv st := by rw [h]; exact k
theorem v_sub (ks : List Nat) (h : lv_pick lv ks = lv') (k : V g L K own cc nL ret wl inj z res σ pc lv' st) : V g L K own cc nL ret wl inj z res σ pc lv st := by
  obtain ⟨p, l, e, R, s, m, args, below, meth, c⟩ := z
  intro hF hW r σ' hr H locs ls hP hS hl
  exact k hF hW r σ' hr H locs ls hP hS (lv_sub hl ks h)
theorem v_get {a ci N ix q0 : Nat} {C ref : String} {T : u_T} {fs : List Value} {v : Value} (k0 : Nat) (he : (wl σ)[q0]? = some (a, .inr (ci, fs))) (hc : classes[ci]? = some (C, T, N)) (hin : ∀ w ∈ u_ws C T N, w ∈ tb) (hk : k0 < N) (hv : fs[k0]? = some v) (href : (T k0).1 = ref) (hl0 : Cond.fieldLink own ix ref (T k0).2.1 (T k0).2.2.1 ∈ tb) (hd : decode cc pc = .ok (.getfield ix, 3)) (k : V g L K own cc nL ret wl inj z res σ (pc + 3) lv (v :: st)) : V g L K own cc nL ret wl inj z res σ pc lv (.ref a :: st) := by
  obtain ⟨p, l, e, R, s, m, args, below, meth, c⟩ := z
  intro hF hW r σ' hr H locs ls hP hS hl
  subst href
  exact va_get (C := C) (T := T) (N := N) hF.1 hF.2.1 hF.2.2.2.2.2.2.1 hin hF.2.2.2.2.2.1 hF.2.2.2.2.2.2.2.1 hP q0 he hc k0 hk (hF.2.2.2.2.2.2.1 _ hl0) (fun _ h9 => h9) hv hd (k hF hW r σ' hr H locs ls hP hS hl)
theorem va_D_of {A : Nat → Prop} {ws : va_W} (hn : (ws.map Prod.fst).Nodup) (hA : ∀ a ∈ ws.map Prod.fst, A a) : va_D A ws := by
  refine ⟨fun i j p q hi hj hpq => ?_, fun k q hk => hA _ (List.mem_map.mpr ⟨q, List.mem_of_getElem? hk, rfl⟩)⟩
  have h1 : (ws.map Prod.fst)[i]? = some p.1 := by rw [List.getElem?_map, hi]; rfl
  have h2 : (ws.map Prod.fst)[j]? = some p.1 := by rw [List.getElem?_map, hj, hpq]; rfl
  obtain ⟨l1, e1⟩ := List.getElem?_eq_some_iff.mp h1
  obtain ⟨l2, e2⟩ := List.getElem?_eq_some_iff.mp h2
  exact (List.getElem_inj hn).mp (e1.trans e2.symm)
theorem va_D_wl {L : List Nat} {wl : τ → va_W} (hn : L.Nodup) (hW : ∀ σ : τ, (wl σ).map Prod.fst = L) (sz : Nat) (σ : τ) : va_D (AA L sz) (wl σ) := va_D_of (by rw [hW]; exact hn) (fun a h => Or.inl (by rw [hW] at h; exact h))
theorem v_put {a ci N ix q0 : Nat} {C ref : String} {T : u_T} {fs : List Value} {v : Value} {σ1 : τ} {ty : FieldType} {ty0 : Nat → FieldType} (k0 : Nat) (he : (wl σ)[q0]? = some (a, .inr (ci, fs))) (hc : classes[ci]? = some (C, T, N)) (hin : ∀ w ∈ u_ws C T N, w ∈ tb) (hty : ∀ k, k < N → parseFieldDescriptor (T k).2.2.1 = some (ty0 k)) (hnm : ∀ a, a < N → ∀ b, b < N → a ≠ b → (T a).2.1 ≠ (T b).2.1) (hk : k0 < N) (href : (T k0).1 = ref) (hfin : (T k0).2.2.2 = false) (hpd : parseFieldDescriptor (T k0).2.2.1 = some ty) (hn : narrow ty v = v) (hfit : fits ty v = true) (hlen : k0 < fs.length) (hset : (wl σ).set q0 (a, .inr (ci, fs.set k0 v)) = wl σ1) (hl0 : Cond.fieldLink own ix ref (T k0).2.1 (T k0).2.2.1 ∈ tb) (hd : decode cc pc = .ok (.putfield ix, 3)) (k : V g L K own cc nL ret wl inj z res σ1 (pc + 3) lv st) : V g L K own cc nL ret wl inj z res σ pc lv (v :: .ref a :: st) := by
  obtain ⟨p, l, e, R, s, m, args, below, meth, c⟩ := z
  intro hF hW r σ' hr H locs ls hP hS hl
  subst href
  exact va_put (C := C) (T := T) (N := N) hF.1 hF.2.1 hF.2.2.2.2.2.2.1 hin ty0 hty hnm hF.2.2.2.2.2.1 hF.2.2.2.2.2.2.2.1 hP (va_D_wl hF.2.2.2.2.2.2.2.2.2.1 hW _ σ) hS q0 he hc k0 hk (hF.2.2.2.2.2.2.1 _ hl0) (fun _ h9 => h9) hfin hpd hn hfit hlen hd (fun H1 locs1 hP1 _ hS1 => k hF hW r σ' hr H1 locs1 ls (by rw [← hset]; exact hP1) hS1 hl)
theorem v_ialdI {a q0 n : Nat} {f : Nat → Int32} {i : Int32} (he : (wl σ)[q0]? = some (a, .inl (g.2.1, n, .inl f))) (hin : vp_in i n) (hd : decode cc pc = .ok (.iaload, 1)) (k : V g L K own cc nL ret wl inj z res σ (pc + 1) lv (.int (f i.toNatClampNeg) :: st)) : V g L K own cc nL ret wl inj z res σ pc lv (.int i :: .ref a :: st) := by
  obtain ⟨p, l, e, R, s, m, args, below, meth, c⟩ := z
  intro hF hW r σ' hr H locs ls hP hS hl
  exact va_iald hF.1 hF.2.1 hF.2.2.2.2.2.2.2.1 hP q0 0 he rfl hin hd (k hF hW r σ' hr H locs ls hP hS hl)
theorem v_iald {a q0 n : Nat} {f : Nat → Int32} {i : Int32} (he : (wl σ)[q0]? = some (a, .inl (g.2.1, n, .inl f))) (hd : decode cc pc = .ok (.iaload, 1)) (k : V g L K own cc nL ret wl inj z res σ (pc + 1) lv (.int (f i.toNatClampNeg) :: st)) : V g L K own cc nL ret wl inj z (grd i n res) σ pc lv (.int i :: .ref a :: st) := by
  unfold grd
  exact v_case (fun h => v_ialdI he h hd k) (fun _ => v_none)
theorem v_iastI {a q0 n : Nat} {f : Nat → Int32} {i x : Int32} {σ1 : τ} (he : (wl σ)[q0]? = some (a, .inl (g.2.1, n, .inl f))) (hin : vp_in i n) (hset : (wl σ).set q0 (a, .inl (g.2.1, n, .inl (upd f i.toNatClampNeg x))) = wl σ1) (hd : decode cc pc = .ok (.iastore, 1)) (k : V g L K own cc nL ret wl inj z res σ1 (pc + 1) lv st) : V g L K own cc nL ret wl inj z res σ pc lv (.int x :: .int i :: .ref a :: st) := by
  obtain ⟨p, l, e, R, s, m, args, below, meth, c⟩ := z
  intro hF hW r σ' hr H locs ls hP hS hl
  exact va_iast hF.1 hF.2.1 hF.2.2.2.2.2.2.2.1 hP (va_D_wl hF.2.2.2.2.2.2.2.2.2.1 hW _ σ) hS q0 0 he rfl hin hd (fun H1 locs1 hP1 _ hS1 => k hF hW r σ' hr H1 locs1 ls (by rw [← hset]; exact hP1) hS1 hl)
theorem v_iast {a q0 n : Nat} {f : Nat → Int32} {i x : Int32} {σ1 : τ} (he : (wl σ)[q0]? = some (a, .inl (g.2.1, n, .inl f))) (hset : (wl σ).set q0 (a, .inl (g.2.1, n, .inl (upd f i.toNatClampNeg x))) = wl σ1) (hd : decode cc pc = .ok (.iastore, 1)) (k : V g L K own cc nL ret wl inj z res σ1 (pc + 1) lv st) : V g L K own cc nL ret wl inj z (grd i n res) σ pc lv (.int x :: .int i :: .ref a :: st) := by
  unfold grd
  exact v_case (fun h => v_iastI he h hset hd k) (fun _ => v_none)
theorem v_alen {a q0 : Nat} {x : vp_A} {cA : ClassId} {ty : FieldType} {t0 : Nat} {v : Int32} (he : (wl σ)[q0]? = some (a, .inl (cA, x))) (ht : (tysG g)[t0]? = some (cA, ty)) (hv : Int32.ofNat x.1 = v) (hd : decode cc pc = .ok (.arraylength, 1)) (k : V g L K own cc nL ret wl inj z res σ (pc + 1) lv (.int v :: st)) : V g L K own cc nL ret wl inj z res σ pc lv (.ref a :: st) := by
  obtain ⟨p, l, e, R, s, m, args, below, meth, c⟩ := z
  intro hF hW r σ' hr H locs ls hP hS hl
  exact va_alen hF.1 hF.2.1 hF.2.2.2.2.2.2.2.1 hP q0 t0 he ht hv hd (k hF hW r σ' hr H locs ls hP hS hl)
theorem v_aald {a q0 n : Nat} {cA : ClassId} {C : String} {t0 : Nat} {f : Nat → Option Nat} {i : Int32} (he : (wl σ)[q0]? = some (a, .inl (cA, n, .inr (.inr (.inr (.inr f)))))) (ht : (tysG g)[t0]? = some (cA, .object C)) (hd : decode cc pc = .ok (.aaload, 1)) (k : i.toNatClampNeg < n → V g L K own cc nL ret wl inj z res σ (pc + 1) lv (va_rf (f i.toNatClampNeg) :: st)) : V g L K own cc nL ret wl inj z (grd i n res) σ pc lv (.int i :: .ref a :: st) := by
  unfold grd
  refine v_case (fun h => ?_) (fun _ => v_none)
  have hn : i.toNatClampNeg < n := by
    rcases Nat.lt_or_ge i.toNatClampNeg n with q | q
    · exact q
    · exact absurd (Or.inr q) h
  replace k := k hn
  obtain ⟨p, l, e, R, s, m, args, below, meth, c⟩ := z
  intro hF hW r σ' hr H locs ls hP hS hl
  exact va_aldq hF.1 hF.2.1 hF.2.2.2.2.2.2.2.1 hP q0 t0 he ht h hd (k hF hW r σ' hr H locs ls hP hS hl)
theorem v_iret {x : Int32} (hd : decode cc pc = .ok (.ireturn, 1)) : V g L K own cc nL (some .int) wl iI z (some (x, σ)) σ pc lv [.int x] := by
  obtain ⟨p, l, e, R, s, m, args, below, meth, c⟩ := z
  intro hF hW r σ' hr H locs ls hP hS hl
  cases hr
  exact W.iret hF.1 hF.2.1 hF.2.2.2.1 (fun t ht hW => ⟨rfl, by rw [ht]; exact hP, hS.F ht⟩) hS.2.2 hd hF.2.2.2.2.1
theorem v_nret {x : Int32} {ty : FieldType} (hn : narrow ty (.int x) = .int x) (hd : decode cc pc = .ok (.ireturn, 1)) : V g L K own cc nL (some ty) wl iI z (some (x, σ)) σ pc lv [.int x] := by
  obtain ⟨p, l, e, R, s, m, args, below, meth, c⟩ := z
  intro hF hW r σ' hr H locs ls hP hS hl
  cases hr
  exact W.zret hF.1 hF.2.1 hF.2.2.2.1 hn (fun t ht hW => ⟨rfl, by rw [ht]; exact hP, hS.F ht⟩) hS.2.2 hd hF.2.2.2.2.1
theorem v_zret {x : Int32} (hd : decode cc pc = .ok (.ireturn, 1)) : V g L K own cc nL (some .boolean) wl iI z (if x = 0 ∨ x = 1 then some (x, σ) else none) σ pc lv [.int x] := by
  refine v_case (fun h => v_nret (by rcases h with h | h <;> (subst h; rfl)) hd) (fun _ => v_none)
theorem v_lret {x : Int64} (hd : decode cc pc = .ok (.lreturn, 1)) : V g L K own cc nL (some .long) wl iL z (some (x, σ)) σ pc lv [.long x] := by
  obtain ⟨p, l, e, R, s, m, args, below, meth, c⟩ := z
  intro hF hW r σ' hr H locs ls hP hS hl
  cases hr
  exact W.lret hF.1 hF.2.1 hF.2.2.2.1 (fun t ht hW => ⟨rfl, by rw [ht]; exact hP, hS.F ht⟩) hS.2.2 hd hF.2.2.2.2.1
theorem v_ret {u : Unit} (hd : decode cc pc = .ok (.return_, 1)) : V g L K own cc nL none wl iU z (some (u, σ)) σ pc lv [] := by
  obtain ⟨p, l, e, R, s, m, args, below, meth, c⟩ := z
  intro hF hW r σ' hr H locs ls hP hS hl
  cases hr
  exact W.vret hF.1 hF.2.1 hF.2.2.2.1 (fun t ht hW => ⟨rfl, by rw [ht]; exact hP, hS.F ht⟩) hS.2.2 hd hF.2.2.2.2.1
theorem ct_of_V {y : MethodName} {av : List Value} {lv0 : List (Nat × Value)} {f : τ → Option (ρ × τ)} (hy : plainName y.cls = true) (hown : y.cls = own) (hls : (lg_sl av).length ≤ nL) (hlv : lv_args 0 av = lv0) (h : ∀ (z : Zt) (σ : τ), V g L K own cc nL ret wl inj z (f σ) σ 0 lv0 []) : CT g L y cc nL ret K av inj wl f := by
  intro hnd hwl l σ sz r σ' hr
  refine Met.ofW (cc := cc) (maxL := nL) (ret := ret) hy rfl ?_
  intro p e s m args below meth c s₁ B hml hv
  obtain ⟨rfl, hsz, hP, hK, hE⟩ := hv
  subst hsz
  have hts := atoms_spec (ws := Cond.code y cc nL ret :: tb) B.pre
  have ho : s.vm.findClass own = some m.cls := hown ▸ findClass_of_methodNamed B.named
  have hl := lv_entry av (n := nL) hls
  rw [hlv] at hl
  rw [lg_entry_eq]
  exact h (p, l, e, _, s, m, _, below, meth, c) σ ⟨B.exec, B.bytes, hml, B.returns, B.notSynchronized, ho, fun w hw => hts w (List.mem_cons_of_mem _ hw), hK, hE, hnd, rfl⟩ hwl r σ' hr s.heap [] _ hP va_S.rf hl
end VROWS

theorem tbl_in : GoodIn tb tb := fun w hw => ⟨hw, good_of_word (List.mem_filter.mp hw).2⟩
theorem tbl_inC {w : Cond} (h : w ∈ tb) : GoodIn tb (w :: tb) := fun v hv => by
  rcases List.mem_cons.mp hv with rfl | hv
  · exact tbl_in _ h
  · exact tbl_in _ hv
/-- what a call needs of a method -/
def MS (y : MethodName) (cc : ByteArray) (nL : Nat) (ret : Option FieldType) (n : Nat) : Prop := Cond.code y cc nL ret ∈ tb ∧ Cond.initialized y.cls ∈ tb ∧ Cond.static y ∈ tb ∧ (y.cls ≠ "java/lang/invoke/MethodHandle" ∧ y.cls ≠ "java/lang/invoke/VarHandle" ∧ (parseMethodDescriptor y.desc).map (fun d => d.parameters.length) = some n) ∧ nL ≤ 80
def MV (y : MethodName) (cc : ByteArray) (nL : Nat) (ret : Option FieldType) (n : Nat) : Prop := Cond.code y cc nL ret ∈ tb ∧ Cond.initialized y.cls ∈ tb ∧ (Cond.instanceMethod y ∈ tb ∧ Cond.selects y.cls y y ∈ tb) ∧ (y.cls ≠ "java/lang/invoke/MethodHandle" ∧ y.cls ≠ "java/lang/invoke/VarHandle" ∧ (parseMethodDescriptor y.desc).map (fun d => d.parameters.length) = some n) ∧ nL ≤ 80
theorem pre_blind {τ : Type} {g : Gt} {L : List Nat} {wl : τ → va_W} {σ : τ} {sz : Nat} (av : List Value) : FrameBlind (va_Pc av (PRE g L wl σ sz)) := by
  intro a U g0 mk q
  obtain ⟨h1, h2, h3, h4, h5⟩ := q
  exact ⟨h1, h2, h3, va_K.moved (u := U) (U := U.calling g0 mk a) (Vm.Alike.refl U.vm) h4, Ex.same rfl h5⟩
theorem pre_of {τ : Type} {g : Gt} {L : List Nat} {wl : τ → va_W} {σ : τ} {s : State} {H : Heap} {locs : List Loc} (hK : KG g s) (hE : Ex g (AA L s.heap.size) s s.heap) (hP : va_P g.1 classes (wl σ) H) (hS : va_S (AA L s.heap.size) s.heap H locs) : ∀ U : State, U.heap = H → s.WarmedH U.vm → PRE g L wl σ H.size U := by
  intro U hU hW
  refine ⟨by rw [hU], by rw [hU]; exact hP, va_K.moved hW.alike hK, ?_⟩
  rw [hU]
  exact Ex.warm hW ((hE.kept hS.2.1).narrow (AA.mono hS.1))
section VCALL
variable {p : Program} {l : Launch} {e : Env} {R : Room} {s : State} {m : MethodId} {args : Array Value} {below : List Frame} {meth : Method} {c : Code} {H : Heap} {locs : List Loc} {Q : State → Prop} {τ ρ : Type} {g : Gt} {L : List Nat} {wl : τ → va_W} {inj : ρ → Option Value} {pc : Nat} {ls : Array Slot} {st0 rest : List Value} {r1 : ρ} {σ1 : τ} {aa : Array Value}
theorem w_call (hr : va_Run p l e R s m args below meth c H locs 0 0 0 0 (F0 m pc ls st0) rest (CQ g wl inj L r1 σ1 aa) (AA L H.size)) (hS : va_S (AA L s.heap.size) s.heap H locs)
    (kk : ∀ (H1 : Heap) (locs1 : List Loc), va_P g.1 classes (wl σ1) H1 → va_S (AA L s.heap.size) s.heap H1 locs1 → W p l e R s m args below meth c H1 locs1 0 0 Q (F0 m (pc + 3) ls ((inj r1).toList ++ rest))) : W p l e R s m args below meth c H locs 0 0 Q (F0 m pc ls st0) := by
  intro T hT X
  obtain ⟨v, st₀, t, T', Ls, h0, X', hL, e1, e2, ⟨hv, hp, hz, hk⟩, stp⟩ := hr T hT X
  have hv : v = inj r1 := by injection hv
  subst hv
  rw [h0] at hz hk
  have hA := AA.mono (L := L) hS.1
  obtain ⟨t2, a1, b1⟩ := kk T'.heap (locs ++ Ls) (by rw [e1]; exact hp)
    ⟨Nat.le_trans hS.1 (by rw [e1]; exact hz), fun q h1 h2 => by rw [e1, hk q (Nat.lt_of_lt_of_le h1 hS.1) (fun z => h2 (hA q z))]; exact hS.2.1 q h1 h2, fun q hq => by
      rcases List.mem_append.mp hq with h | h
      · exact hS.2.2 q h
      · exact hA _ (hL q h)⟩ T' rfl X'
  exact ⟨t2, stp t2 a1, b1⟩
end VCALL
/-- a receiver's class -/
def RC {τ : Type} (wl : τ → va_W) (σ : τ) (b : Nat) (C : String) : Prop := ∃ (q0 ci : Nat) (fs : List Value) (q : vw_C), (wl σ)[q0]? = some (b, .inr (ci, fs)) ∧ classes[ci]? = some q ∧ q.1 = C
section VROWS2
variable {τ ρ ρ2 : Type} {g : Gt} {L : List Nat} {K : Nat} {own : String} {cc : ByteArray} {nL : Nat} {ret : Option FieldType} {wl : τ → va_W} {inj : ρ → Option Value} {z : Zt} {res r1 r2 : Option (ρ × τ)} {σ : τ} {pc : Nat} {lv lv' : List (Nat × Value)} {st rest : List Value}
  {y : MethodName} {bytes : ByteArray} {maxL k n ix b : Nat} {ret2 : Option FieldType} {av As : List Value} {inj2 : ρ2 → Option Value} {f : τ → Option (ρ2 × τ)} {kf : ρ2 × τ → Option (ρ × τ)}
theorem v_callS (hc : CT g L y bytes maxL ret2 k av inj2 wl f) (mi : MS y bytes maxL ret2 n) (hlink : Cond.methodLink own ix y ∈ tb) (hk : k + 1 ≤ K) (hn : av.length = n) (hst : st = av.reverse ++ rest) (hrest : (rest.map fun v => v.category).sum ≤ 8) (hd : decode cc pc = .ok (.invokestatic ix, 3))
    (kk : ∀ (q : ρ2 × τ), V g L K own cc nL ret wl inj z (kf q) q.2 (pc + 3) lv ((inj2 q.1).toList ++ rest)) : V g L K own cc nL ret wl inj z (bnd (f σ) kf) σ pc lv st := by
  obtain ⟨p, l, e, R, s, m, args, below, meth, c⟩ := z
  intro hF hW r σ' hr H locs ls hP hS hl
  cases hf : f σ with
  | none => rw [hf] at hr; cases hr
  | some q =>
    obtain ⟨q1, q2⟩ := q
    rw [hf, bnd_some] at hr
    obtain ⟨hx, hb, hml, hret, hlk, ho, hts, hK, hE, hnd, hR⟩ := hF
    subst hR
    have hM := hc hnd hW l σ H.size q1 q2 hf
    have hcw := va_cwS (own := own) (index := ix) (R := rmk K) (bytes := bytes) (maxL := maxL) (ret := ret2) (mc := 0) (ms := 0) (Ts := tb) (ws := Cond.code y bytes maxL ret2 :: tb) (ws' := tb) (rm := rmk k) n hts (fun w hw => by
      rcases List.mem_append.mp (show w ∈ ([.methodLink own ix y, .static y, .initialized y.cls] : List Cond) ++ (Cond.code y bytes maxL ret2 :: tb) from hw) with h | h
      · rcases List.mem_cons.mp h with rfl | h
        · exact tbl_in _ hlink
        · rcases List.mem_cons.mp h with rfl | h
          · exact tbl_in _ mi.2.2.1
          · rcases List.mem_cons.mp h with rfl | h
            · exact tbl_in _ mi.2.1
            · cases h
      · exact tbl_inC mi.1 _ h) rfl rfl rfl mi.2.2.2.1 ⟨hk, by have := mi.2.2.2.2; show 8 + (maxL + 11) + 100 * k ≤ 100 * K; omega⟩
    refine w_call (va_runS (As := av) (rest := rest) ⟨hx, hb, hml, ho, hts⟩ hM hcw ⟨pre_blind av, fun U hU hWm => ⟨rfl, pre_of hK hE hP hS U hU hWm⟩⟩ rfl hn hl.1 hst (lv_room hrest) hd ⟨Nat.zero_le _, Nat.zero_le _⟩) hS (fun H1 locs1 hP1 hS1 => ?_)
    exact kk (q1, q2) ⟨hx, hb, hml, hret, hlk, ho, hts, hK, hE, hnd, rfl⟩ hW r σ' hr H1 locs1 ls hP1 hS1 hl
theorem v_callVr (hrecv : ∀ (H : Heap), va_P g.1 classes (wl σ) H → ∀ s : State, KG g s → ∀ locs, Ex g (AA L s.heap.size) s s.heap → va_S (AA L s.heap.size) s.heap H locs → ∃ cellB : Cell, H[b]? = some cellB ∧ cellB.vm.isStatics = false ∧ s.vm.findClass y.cls = some cellB.cls) (hc : CT g L y bytes maxL ret2 k (.ref b :: As) inj2 wl f) (mi : MV y bytes maxL ret2 n) (hlink : Cond.methodLink own ix y ∈ tb) (hk : k + 1 ≤ K) (hn : As.length = n) (hst : st = As.reverse ++ .ref b :: rest) (hrest : (rest.map fun v => v.category).sum ≤ 8) (hd : decode cc pc = .ok (.invokevirtual ix, 3))
    (kk : ∀ (q : ρ2 × τ), V g L K own cc nL ret wl inj z (kf q) q.2 (pc + 3) lv ((inj2 q.1).toList ++ rest)) : V g L K own cc nL ret wl inj z (bnd (f σ) kf) σ pc lv st := by
  obtain ⟨p, l, e, R, s, m, args, below, meth, c⟩ := z
  intro hF hW r σ' hr H locs ls hP hS hl
  cases hf : f σ with
  | none => rw [hf] at hr; cases hr
  | some q =>
    obtain ⟨q1, q2⟩ := q
    rw [hf, bnd_some] at hr
    obtain ⟨hx, hb, hml, hret, hlk, ho, hts, hK, hE, hnd, hR⟩ := hF
    subst hR
    have hM := hc hnd hW l σ H.size q1 q2 hf
    have hcw := cwV (own := own) (index := ix) (C := y.cls) (R := rmk K) (bytes := bytes) (maxL := maxL) (ret := ret2) (mc := 0) (ms := 0) (Ts := tb) (ws := Cond.code y bytes maxL ret2 :: tb) (ws' := tb) (rm := rmk k) n hts (fun w hw => by
      rcases List.mem_append.mp (show w ∈ ([.methodLink own ix y, .instanceMethod y, .selects y.cls y y, .initialized y.cls] : List Cond) ++ (Cond.code y bytes maxL ret2 :: tb) from hw) with h | h
      · rcases List.mem_cons.mp h with rfl | h
        · exact tbl_in _ hlink
        · rcases List.mem_cons.mp h with rfl | h
          · exact tbl_in _ mi.2.2.1.1
          · rcases List.mem_cons.mp h with rfl | h
            · exact tbl_in _ mi.2.2.1.2
            · rcases List.mem_cons.mp h with rfl | h
              · exact tbl_in _ mi.2.1
              · cases h
      · exact tbl_inC mi.1 _ h) rfl rfl rfl ⟨rfl, mi.2.2.2.1⟩ ⟨hk, by have := mi.2.2.2.2; show 8 + (maxL + 11) + 100 * k ≤ 100 * K; omega⟩
    refine w_call (va_runV (b := b) (As := As) (rest := rest) ⟨hx, hb, hml, ho, hts⟩ hM hcw ⟨pre_blind _, hrecv H hP s hK locs hE hS, fun U hU hWm => ⟨rfl, pre_of hK hE hP hS U hU hWm⟩⟩ rfl hn hl.1 hst (lv_room hrest) hd ⟨Nat.zero_le _, Nat.zero_le _⟩) hS (fun H1 locs1 hP1 hS1 => ?_)
    exact kk (q1, q2) ⟨hx, hb, hml, hret, hlk, ho, hts, hK, hE, hnd, rfl⟩ hW r σ' hr H1 locs1 ls hP1 hS1 hl
theorem v_callV (hrc : RC wl σ b y.cls) (hc : CT g L y bytes maxL ret2 k (.ref b :: As) inj2 wl f) (mi : MV y bytes maxL ret2 n) (hlink : Cond.methodLink own ix y ∈ tb) (hk : k + 1 ≤ K) (hn : As.length = n) (hst : st = As.reverse ++ .ref b :: rest) (hrest : (rest.map fun v => v.category).sum ≤ 8) (hd : decode cc pc = .ok (.invokevirtual ix, 3))
    (kk : ∀ (q : ρ2 × τ), V g L K own cc nL ret wl inj z (kf q) q.2 (pc + 3) lv ((inj2 q.1).toList ++ rest)) : V g L K own cc nL ret wl inj z (bnd (f σ) kf) σ pc lv st := by
  refine v_callVr (fun H hP s hK _ _ _ => ?_) hc mi hlink hk hn hst hrest hd kk
  obtain ⟨q0, ci, fs, q, h1, h2, h3⟩ := hrc
  have h4 := va_recv hK hP h2 h1
  rw [h3] at h4
  exact h4
theorem v_mmax {x y0 : Int32} (hlink : Cond.methodLink own ix yJ9_max_7cf53 ∈ tb) (hs : Cond.static yJ9_max_7cf53 ∈ tb) (hi : Cond.initialized "java/lang/Math" ∈ tb) (hco : Cond.code yJ9_max_7cf53 cJ9_max_7cf53 2 (some .int) ∈ tb) (hK1 : 1 ≤ K) (hrest : (rest.map fun v => v.category).sum ≤ 8) (hd : decode cc pc = .ok (.invokestatic ix, 3)) (kk : V g L K own cc nL ret wl inj z res σ (pc + 3) lv (.int (mxI x y0) :: rest)) : V g L K own cc nL ret wl inj z res σ pc lv (.int y0 :: .int x :: rest) := by
  obtain ⟨p, l, e, R, s, m, args, below, meth, c⟩ := z
  intro hF hW r σ' hr H locs ls hP hS hl
  obtain ⟨hx, hb, hml, hret, hlk, ho, hts, hK, hE, hnd, hR⟩ := id hF
  subst hR
  exact va_mmax hx hb (hml.trans hl.1.symm) ho (hts _ hlink) (hts _ hs) (hts _ hi) (hts _ hco) hK1 (by show _ ≤ 100 * K; omega) (Nat.zero_le _) (Nat.zero_le _) hd (kk hF hW r σ' hr H locs ls hP hS hl)
theorem v_mmin {x y0 : Int32} (hlink : Cond.methodLink own ix yJ9_min_7cf53 ∈ tb) (hs : Cond.static yJ9_min_7cf53 ∈ tb) (hi : Cond.initialized "java/lang/Math" ∈ tb) (hco : Cond.code yJ9_min_7cf53 cJ9_min_7cf53 2 (some .int) ∈ tb) (hK1 : 1 ≤ K) (hrest : (rest.map fun v => v.category).sum ≤ 8) (hd : decode cc pc = .ok (.invokestatic ix, 3)) (kk : V g L K own cc nL ret wl inj z res σ (pc + 3) lv (.int (mnI x y0) :: rest)) : V g L K own cc nL ret wl inj z res σ pc lv (.int y0 :: .int x :: rest) := by
  obtain ⟨p, l, e, R, s, m, args, below, meth, c⟩ := z
  intro hF hW r σ' hr H locs ls hP hS hl
  obtain ⟨hx, hb, hml, hret, hlk, ho, hts, hK, hE, hnd, hR⟩ := id hF
  subst hR
  exact va_mmin hx hb (hml.trans hl.1.symm) ho (hts _ hlink) (hts _ hs) (hts _ hi) (hts _ hco) hK1 (by show _ ≤ 100 * K; omega) (Nat.zero_le _) (Nat.zero_le _) hd (kk hF hW r σ' hr H locs ls hP hS hl)
end VROWS2
end
section

/-! ===== the two worlds ===== -/
def up {α : Type} (f : Nat → α) (k : Nat) (v : α) : Nat → α := fun j => bif Nat.beq j k then v else f j
theorem up_s {α : Type} (f : Nat → α) (k : Nat) (v : α) : up f k v k = v := by unfold up; rw [Nat.beq_refl]; rfl
theorem up_n {α : Type} (f : Nat → α) {k j : Nat} (v : α) (h : j ≠ k) : up f k v j = f j := by
  unfold up
  cases hq : Nat.beq j k with
  | true => exact absurd (Nat.eq_of_beq_eq_true hq) h
  | false => rfl
abbrev GX : Type := (Nat → Int32) × (Nat → Nat → Int32) × (Nat → Int64) × (Nat → Nat → Nat → Int32) × (Nat → Int32) × (Nat → Nat → Nat → Int32) × (Nat → Nat → Int32) × (Nat → Nat → Int32) × (Nat → Int32) × Option Nat × Option Unit
def xI (σ : GX) : Nat → Int32 := σ.1
def xS (σ : GX) : Nat → Nat → Int32 := σ.2.1
def xR (σ : GX) : Nat → Int64 := σ.2.2.1
def xB (σ : GX) : Nat → Nat → Nat → Int32 := σ.2.2.2.1
def xT (σ : GX) : Nat → Int32 := σ.2.2.2.2.1
def xU (σ : GX) : Nat → Nat → Nat → Int32 := σ.2.2.2.2.2.1
def xH (σ : GX) : Nat → Nat → Int32 := σ.2.2.2.2.2.2.1
def xN (σ : GX) : Nat → Nat → Int32 := σ.2.2.2.2.2.2.2.1
def xP (σ : GX) : Nat → Int32 := σ.2.2.2.2.2.2.2.2.1
def xV (σ : GX) : Option Nat := σ.2.2.2.2.2.2.2.2.2.1
def xY (σ : GX) : Option Unit := σ.2.2.2.2.2.2.2.2.2.2
def sI (σ : GX) (k : Nat) (v : Int32) : GX := (up (xI σ) k v, xS σ, xR σ, xB σ, xT σ, xU σ, xH σ, xN σ, xP σ, xV σ, xY σ)
def sS (σ : GX) (z j : Nat) (v : Int32) : GX := (xI σ, up (xS σ) z (up (xS σ z) j v), xR σ, xB σ, xT σ, xU σ, xH σ, xN σ, xP σ, xV σ, xY σ)
def sR (σ : GX) (z : Nat) (v : Int64) : GX := (xI σ, xS σ, up (xR σ) z v, xB σ, xT σ, xU σ, xH σ, xN σ, xP σ, xV σ, xY σ)
def sB (σ : GX) (z j i : Nat) (v : Int32) : GX := (xI σ, xS σ, xR σ, up (xB σ) z (up (xB σ z) j (upd (xB σ z j) i v)), xT σ, xU σ, xH σ, xN σ, xP σ, xV σ, xY σ)
def sT (σ : GX) (t : Nat) (v : Int32) : GX := (xI σ, xS σ, xR σ, xB σ, up (xT σ) t v, xU σ, xH σ, xN σ, xP σ, xV σ, xY σ)
def sU (σ : GX) (t j i : Nat) (v : Int32) : GX := (xI σ, xS σ, xR σ, xB σ, xT σ, up (xU σ) t (up (xU σ t) j (upd (xU σ t j) i v)), xH σ, xN σ, xP σ, xV σ, xY σ)
def sH (σ : GX) (q j : Nat) (v : Int32) : GX := (xI σ, xS σ, xR σ, xB σ, xT σ, xU σ, up (xH σ) q (up (xH σ q) j v), xN σ, xP σ, xV σ, xY σ)
def sN (σ : GX) (q i : Nat) (v : Int32) : GX := (xI σ, xS σ, xR σ, xB σ, xT σ, xU σ, xH σ, up (xN σ) q (upd (xN σ q) i v), xP σ, xV σ, xY σ)
def sP (σ : GX) (i : Nat) (v : Int32) : GX := (xI σ, xS σ, xR σ, xB σ, xT σ, xU σ, xH σ, xN σ, upd (xP σ) i v, xV σ, xY σ)
def sV (σ : GX) (v : Option Nat) : GX := (xI σ, xS σ, xR σ, xB σ, xT σ, xU σ, xH σ, xN σ, xP σ, v, xY σ)
def sY (σ : GX) (v : Option Unit) : GX := (xI σ, xS σ, xR σ, xB σ, xT σ, xU σ, xH σ, xN σ, xP σ, xV σ, v)
def cB (σ : GX) (z1 j1 z j : Nat) (sp dp n : Nat) : GX := (xI σ, xS σ, xR σ, up (xB σ) z (up (xB σ z) j (va_cpy (xB σ z1 j1) (xB σ z j) sp dp n)), xT σ, xU σ, xH σ, xN σ, xP σ, xV σ, xY σ)
def cN (σ : GX) (q1 q : Nat) (sp dp n : Nat) : GX := (xI σ, xS σ, xR σ, xB σ, xT σ, xU σ, xH σ, up (xN σ) q (va_cpy (xN σ q1) (xN σ q) sp dp n), xP σ, xV σ, xY σ)

def aMain (ad : Nat → Nat) : Nat := ad 0
def aTexts (ad : Nat → Nat) : Nat := ad 1
def aSheets (ad : Nat → Nat) : Nat := ad 2
def aTape (ad : Nat → Nat) : Nat := ad 3
def aReader (ad : Nat → Nat) : Nat := ad 4
def aLaw (ad : Nat → Nat) (t : Nat) : Nat := ad (5 + 4 * t)
def aLawA (ad : Nat → Nat) (t j : Nat) : Nat := ad (6 + 4 * t + j)
def aSea (ad : Nat → Nat) (z : Nat) : Nat := ad (29 + 6 * z)
def aSeaA (ad : Nat → Nat) (z j : Nat) : Nat := ad (30 + 6 * z + j)
def aSheet (ad : Nat → Nat) (q : Nat) : Nat := ad (47 + 2 * q)
def aNums (ad : Nat → Nat) (q : Nat) : Nat := ad (48 + 2 * q)
def wX (g : Gt) (ad : Nat → Nat) (σ : GX) : va_W := [
  (aMain ad, .inr (4, [.ref (aTexts ad), .ref (aSea ad 0), .ref (aSea ad 1), .ref (aSea ad 2), .ref (aSheets ad), .ref (aTape ad), .ref (aReader ad), .int (xI σ 0), .int (xI σ 1), .int (xI σ 2)])),
  (aTexts ad, .inl (g.2.2.1, 6, .inr (.inr (.inr (.inr (fun t => some (aLaw ad t))))))),
  (aSheets ad, .inl (g.2.2.2.1, 4, .inr (.inr (.inr (.inr (fun q => some (aSheet ad q))))))),
  (aTape ad, .inl (g.2.1, 160, .inl (xP σ))),
  (aReader ad, .inr (1, [va_rf ((xY σ).map (fun _ => aTape ad)), .int (xI σ 3), .int (xI σ 4), .int (xI σ 5), .int (xI σ 6), .int (xI σ 7), va_rf ((xV σ).map (aLaw ad))])),
  (aLaw ad 0, .inr (0, [.ref (aLawA ad 0 0), .ref (aLawA ad 0 1), .ref (aLawA ad 0 2), .int (xT σ 0)])),
  (aLawA ad 0 0, .inl (g.2.1, 160, .inl (xU σ 0 0))),
  (aLawA ad 0 1, .inl (g.2.1, 160, .inl (xU σ 0 1))),
  (aLawA ad 0 2, .inl (g.2.1, 3, .inl (xU σ 0 2))),
  (aLaw ad 1, .inr (0, [.ref (aLawA ad 1 0), .ref (aLawA ad 1 1), .ref (aLawA ad 1 2), .int (xT σ 1)])),
  (aLawA ad 1 0, .inl (g.2.1, 160, .inl (xU σ 1 0))),
  (aLawA ad 1 1, .inl (g.2.1, 160, .inl (xU σ 1 1))),
  (aLawA ad 1 2, .inl (g.2.1, 3, .inl (xU σ 1 2))),
  (aLaw ad 2, .inr (0, [.ref (aLawA ad 2 0), .ref (aLawA ad 2 1), .ref (aLawA ad 2 2), .int (xT σ 2)])),
  (aLawA ad 2 0, .inl (g.2.1, 160, .inl (xU σ 2 0))),
  (aLawA ad 2 1, .inl (g.2.1, 160, .inl (xU σ 2 1))),
  (aLawA ad 2 2, .inl (g.2.1, 3, .inl (xU σ 2 2))),
  (aLaw ad 3, .inr (0, [.ref (aLawA ad 3 0), .ref (aLawA ad 3 1), .ref (aLawA ad 3 2), .int (xT σ 3)])),
  (aLawA ad 3 0, .inl (g.2.1, 160, .inl (xU σ 3 0))),
  (aLawA ad 3 1, .inl (g.2.1, 160, .inl (xU σ 3 1))),
  (aLawA ad 3 2, .inl (g.2.1, 3, .inl (xU σ 3 2))),
  (aLaw ad 4, .inr (0, [.ref (aLawA ad 4 0), .ref (aLawA ad 4 1), .ref (aLawA ad 4 2), .int (xT σ 4)])),
  (aLawA ad 4 0, .inl (g.2.1, 160, .inl (xU σ 4 0))),
  (aLawA ad 4 1, .inl (g.2.1, 160, .inl (xU σ 4 1))),
  (aLawA ad 4 2, .inl (g.2.1, 3, .inl (xU σ 4 2))),
  (aLaw ad 5, .inr (0, [.ref (aLawA ad 5 0), .ref (aLawA ad 5 1), .ref (aLawA ad 5 2), .int (xT σ 5)])),
  (aLawA ad 5 0, .inl (g.2.1, 160, .inl (xU σ 5 0))),
  (aLawA ad 5 1, .inl (g.2.1, 160, .inl (xU σ 5 1))),
  (aLawA ad 5 2, .inl (g.2.1, 3, .inl (xU σ 5 2))),
  (aSea ad 0, .inr (2, [.ref (aTexts ad), .ref (aSeaA ad 0 0), .ref (aSeaA ad 0 1), .ref (aSeaA ad 0 2), .ref (aSeaA ad 0 3), .ref (aSeaA ad 0 4), .long (xR σ 0), .int (xS σ 0 0), .int (xS σ 0 1), .int (xS σ 0 2), .int (xS σ 0 3), .int (xS σ 0 4)])),
  (aSeaA ad 0 0, .inl (g.2.1, 36, .inl (xB σ 0 0))),
  (aSeaA ad 0 1, .inl (g.2.1, 6, .inl (xB σ 0 1))),
  (aSeaA ad 0 2, .inl (g.2.1, 6, .inl (xB σ 0 2))),
  (aSeaA ad 0 3, .inl (g.2.1, 6, .inl (xB σ 0 3))),
  (aSeaA ad 0 4, .inl (g.2.1, 6, .inl (xB σ 0 4))),
  (aSea ad 1, .inr (2, [.ref (aTexts ad), .ref (aSeaA ad 1 0), .ref (aSeaA ad 1 1), .ref (aSeaA ad 1 2), .ref (aSeaA ad 1 3), .ref (aSeaA ad 1 4), .long (xR σ 1), .int (xS σ 1 0), .int (xS σ 1 1), .int (xS σ 1 2), .int (xS σ 1 3), .int (xS σ 1 4)])),
  (aSeaA ad 1 0, .inl (g.2.1, 36, .inl (xB σ 1 0))),
  (aSeaA ad 1 1, .inl (g.2.1, 6, .inl (xB σ 1 1))),
  (aSeaA ad 1 2, .inl (g.2.1, 6, .inl (xB σ 1 2))),
  (aSeaA ad 1 3, .inl (g.2.1, 6, .inl (xB σ 1 3))),
  (aSeaA ad 1 4, .inl (g.2.1, 6, .inl (xB σ 1 4))),
  (aSea ad 2, .inr (2, [.ref (aTexts ad), .ref (aSeaA ad 2 0), .ref (aSeaA ad 2 1), .ref (aSeaA ad 2 2), .ref (aSeaA ad 2 3), .ref (aSeaA ad 2 4), .long (xR σ 2), .int (xS σ 2 0), .int (xS σ 2 1), .int (xS σ 2 2), .int (xS σ 2 3), .int (xS σ 2 4)])),
  (aSeaA ad 2 0, .inl (g.2.1, 36, .inl (xB σ 2 0))),
  (aSeaA ad 2 1, .inl (g.2.1, 6, .inl (xB σ 2 1))),
  (aSeaA ad 2 2, .inl (g.2.1, 6, .inl (xB σ 2 2))),
  (aSeaA ad 2 3, .inl (g.2.1, 6, .inl (xB σ 2 3))),
  (aSeaA ad 2 4, .inl (g.2.1, 6, .inl (xB σ 2 4))),
  (aSheet ad 0, .inr (3, [.ref (aNums ad 0), .int (xH σ 0 0), .int (xH σ 0 1)])),
  (aNums ad 0, .inl (g.2.1, 40, .inl (xN σ 0))),
  (aSheet ad 1, .inr (3, [.ref (aNums ad 1), .int (xH σ 1 0), .int (xH σ 1 1)])),
  (aNums ad 1, .inl (g.2.1, 40, .inl (xN σ 1))),
  (aSheet ad 2, .inr (3, [.ref (aNums ad 2), .int (xH σ 2 0), .int (xH σ 2 1)])),
  (aNums ad 2, .inl (g.2.1, 40, .inl (xN σ 2))),
  (aSheet ad 3, .inr (3, [.ref (aNums ad 3), .int (xH σ 3 0), .int (xH σ 3 1)])),
  (aNums ad 3, .inl (g.2.1, 40, .inl (xN σ 3)))]
def LX (ad : Nat → Nat) : List Nat := (List.range 55).map ad
theorem wX_L (g : Gt) (ad : Nat → Nat) (σ : GX) : (wX g ad σ).map Prod.fst = LX ad := rfl

abbrev GM : Type := (Nat → Int32) × (Nat → Int64) × (Nat → Nat → Int32)
def mI (σ : GM) : Nat → Int32 := σ.1
def mL (σ : GM) : Nat → Int64 := σ.2.1
def mA (σ : GM) : Nat → Nat → Int32 := σ.2.2
def tI (σ : GM) (k : Nat) (v : Int32) : GM := (up (mI σ) k v, mL σ, mA σ)
def tL (σ : GM) (k : Nat) (v : Int64) : GM := (mI σ, up (mL σ) k v, mA σ)
def tA (σ : GM) (a i : Nat) (v : Int32) : GM := (mI σ, mL σ, up (mA σ) a (upd (mA σ a) i v))
def aMo (ad : Nat → Nat) : Nat := ad 0
def aMoA (ad : Nat → Nat) (a : Nat) : Nat := ad (1 + a)
def wM (g : Gt) (ad : Nat → Nat) (σ : GM) : va_W := [
  (aMo ad, .inr (5, [.int (mI σ 0), .ref (aMoA ad 0), .ref (aMoA ad 1), .ref (aMoA ad 2), .ref (aMoA ad 3), .ref (aMoA ad 4), .ref (aMoA ad 5), .long (mL σ 0), .int (mI σ 1), .int (mI σ 2), .ref (aMoA ad 6), .int (mI σ 3), .ref (aMoA ad 7), .ref (aMoA ad 8), .int (mI σ 4), .int (mI σ 5), .int (mI σ 6), .ref (aMoA ad 9), .ref (aMoA ad 10), .long (mL σ 1), .ref (aMoA ad 11), .ref (aMoA ad 12), .ref (aMoA ad 13), .ref (aMoA ad 14), .int (mI σ 7), .int (mI σ 8), .int (mI σ 9), .int (mI σ 10), .ref (aMoA ad 15), .ref (aMoA ad 16), .int (mI σ 11), .int (mI σ 12), .int (mI σ 13), .ref (aMoA ad 17), .ref (aMoA ad 18), .ref (aMoA ad 19), .int (mI σ 14)])),
  (aMoA ad 0, .inl (g.2.1, 6, .inl (mA σ 0))),
  (aMoA ad 1, .inl (g.2.1, 6, .inl (mA σ 1))),
  (aMoA ad 2, .inl (g.2.1, 6, .inl (mA σ 2))),
  (aMoA ad 3, .inl (g.2.1, 6, .inl (mA σ 3))),
  (aMoA ad 4, .inl (g.2.1, 6, .inl (mA σ 4))),
  (aMoA ad 5, .inl (g.2.1, 36, .inl (mA σ 5))),
  (aMoA ad 6, .inl (g.2.1, 160, .inl (mA σ 6))),
  (aMoA ad 7, .inl (g.2.1, 1200, .inl (mA σ 7))),
  (aMoA ad 8, .inl (g.2.1, 24, .inl (mA σ 8))),
  (aMoA ad 9, .inl (g.2.1, 54, .inl (mA σ 9))),
  (aMoA ad 10, .inl (g.2.1, 4, .inl (mA σ 10))),
  (aMoA ad 11, .inl (g.2.1, 4, .inl (mA σ 11))),
  (aMoA ad 12, .inl (g.2.1, 4, .inl (mA σ 12))),
  (aMoA ad 13, .inl (g.2.1, 160, .inl (mA σ 13))),
  (aMoA ad 14, .inl (g.2.1, 60, .inl (mA σ 14))),
  (aMoA ad 15, .inl (g.2.1, 96, .inl (mA σ 15))),
  (aMoA ad 16, .inl (g.2.1, 200, .inl (mA σ 16))),
  (aMoA ad 17, .inl (g.2.1, 200, .inl (mA σ 17))),
  (aMoA ad 18, .inl (g.2.1, 6, .inl (mA σ 18))),
  (aMoA ad 19, .inl (g.2.1, 50, .inl (mA σ 19)))]
def LM (ad : Nat → Nat) : List Nat := (List.range 21).map ad
theorem wM_L (g : Gt) (ad : Nat → Nat) (σ : GM) : (wM g ad σ).map Prod.fst = LM ad := rfl
section WROWS
variable {ρ : Type} {g : Gt} {ad : Nat → Nat} {L : List Nat} {K : Nat} {own : String} {cc : ByteArray} {nL : Nat} {ret : Option FieldType} {inj : ρ → Option Value} {z : Zt} {res : Option (ρ × GX)} {σ : GX} {pc ix : Nat} {lv : List (Nat × Value)} {st : List Value}
theorem inX0 : ∀ w ∈ u_ws RX0 TX0 4, w ∈ tb := by
  intro w hw
  obtain ⟨k, hk, rfl⟩ := List.mem_map.mp hw
  have hk := List.mem_range.mp hk
  match k, hk with
  | 0, _ => exact tb_mem 114 (by decide +kernel) (by decide +kernel)
  | 1, _ => exact tb_mem 116 (by decide +kernel) (by decide +kernel)
  | 2, _ => exact tb_mem 118 (by decide +kernel) (by decide +kernel)
  | 3, _ => exact tb_mem 120 (by decide +kernel) (by decide +kernel)
theorem gX0_steps {t : Nat} (h0 : t < 6) (hl0 : Cond.fieldLink own ix RX0 "steps" "[I" ∈ tb) (hd : decode cc pc = .ok (.getfield ix, 3)) (k : V g L K own cc nL ret (wX g ad) inj z res σ (pc + 3) lv (.ref (aLawA ad t 0) :: st)) : V g L K own cc nL ret (wX g ad) inj z res σ pc lv (.ref (aLaw ad t) :: st) := by
  match t, h0 with
  | 0, _ => exact v_get (q0 := 5) (C := RX0) (T := TX0) (N := 4) 0 rfl rfl inX0 (by decide) rfl rfl hl0 hd k
  | 1, _ => exact v_get (q0 := 9) (C := RX0) (T := TX0) (N := 4) 0 rfl rfl inX0 (by decide) rfl rfl hl0 hd k
  | 2, _ => exact v_get (q0 := 13) (C := RX0) (T := TX0) (N := 4) 0 rfl rfl inX0 (by decide) rfl rfl hl0 hd k
  | 3, _ => exact v_get (q0 := 17) (C := RX0) (T := TX0) (N := 4) 0 rfl rfl inX0 (by decide) rfl rfl hl0 hd k
  | 4, _ => exact v_get (q0 := 21) (C := RX0) (T := TX0) (N := 4) 0 rfl rfl inX0 (by decide) rfl rfl hl0 hd k
  | 5, _ => exact v_get (q0 := 25) (C := RX0) (T := TX0) (N := 4) 0 rfl rfl inX0 (by decide) rfl rfl hl0 hd k
theorem gX0_stack {t : Nat} (h0 : t < 6) (hl0 : Cond.fieldLink own ix RX0 "stack" "[I" ∈ tb) (hd : decode cc pc = .ok (.getfield ix, 3)) (k : V g L K own cc nL ret (wX g ad) inj z res σ (pc + 3) lv (.ref (aLawA ad t 1) :: st)) : V g L K own cc nL ret (wX g ad) inj z res σ pc lv (.ref (aLaw ad t) :: st) := by
  match t, h0 with
  | 0, _ => exact v_get (q0 := 5) (C := RX0) (T := TX0) (N := 4) 1 rfl rfl inX0 (by decide) rfl rfl hl0 hd k
  | 1, _ => exact v_get (q0 := 9) (C := RX0) (T := TX0) (N := 4) 1 rfl rfl inX0 (by decide) rfl rfl hl0 hd k
  | 2, _ => exact v_get (q0 := 13) (C := RX0) (T := TX0) (N := 4) 1 rfl rfl inX0 (by decide) rfl rfl hl0 hd k
  | 3, _ => exact v_get (q0 := 17) (C := RX0) (T := TX0) (N := 4) 1 rfl rfl inX0 (by decide) rfl rfl hl0 hd k
  | 4, _ => exact v_get (q0 := 21) (C := RX0) (T := TX0) (N := 4) 1 rfl rfl inX0 (by decide) rfl rfl hl0 hd k
  | 5, _ => exact v_get (q0 := 25) (C := RX0) (T := TX0) (N := 4) 1 rfl rfl inX0 (by decide) rfl rfl hl0 hd k
theorem gX0_ends {t : Nat} (h0 : t < 6) (hl0 : Cond.fieldLink own ix RX0 "ends" "[I" ∈ tb) (hd : decode cc pc = .ok (.getfield ix, 3)) (k : V g L K own cc nL ret (wX g ad) inj z res σ (pc + 3) lv (.ref (aLawA ad t 2) :: st)) : V g L K own cc nL ret (wX g ad) inj z res σ pc lv (.ref (aLaw ad t) :: st) := by
  match t, h0 with
  | 0, _ => exact v_get (q0 := 5) (C := RX0) (T := TX0) (N := 4) 2 rfl rfl inX0 (by decide) rfl rfl hl0 hd k
  | 1, _ => exact v_get (q0 := 9) (C := RX0) (T := TX0) (N := 4) 2 rfl rfl inX0 (by decide) rfl rfl hl0 hd k
  | 2, _ => exact v_get (q0 := 13) (C := RX0) (T := TX0) (N := 4) 2 rfl rfl inX0 (by decide) rfl rfl hl0 hd k
  | 3, _ => exact v_get (q0 := 17) (C := RX0) (T := TX0) (N := 4) 2 rfl rfl inX0 (by decide) rfl rfl hl0 hd k
  | 4, _ => exact v_get (q0 := 21) (C := RX0) (T := TX0) (N := 4) 2 rfl rfl inX0 (by decide) rfl rfl hl0 hd k
  | 5, _ => exact v_get (q0 := 25) (C := RX0) (T := TX0) (N := 4) 2 rfl rfl inX0 (by decide) rfl rfl hl0 hd k
theorem gX0_size {t : Nat} (h0 : t < 6) (hl0 : Cond.fieldLink own ix RX0 "size" "I" ∈ tb) (hd : decode cc pc = .ok (.getfield ix, 3)) (k : V g L K own cc nL ret (wX g ad) inj z res σ (pc + 3) lv (.int (xT σ t) :: st)) : V g L K own cc nL ret (wX g ad) inj z res σ pc lv (.ref (aLaw ad t) :: st) := by
  match t, h0 with
  | 0, _ => exact v_get (q0 := 5) (C := RX0) (T := TX0) (N := 4) 3 rfl rfl inX0 (by decide) rfl rfl hl0 hd k
  | 1, _ => exact v_get (q0 := 9) (C := RX0) (T := TX0) (N := 4) 3 rfl rfl inX0 (by decide) rfl rfl hl0 hd k
  | 2, _ => exact v_get (q0 := 13) (C := RX0) (T := TX0) (N := 4) 3 rfl rfl inX0 (by decide) rfl rfl hl0 hd k
  | 3, _ => exact v_get (q0 := 17) (C := RX0) (T := TX0) (N := 4) 3 rfl rfl inX0 (by decide) rfl rfl hl0 hd k
  | 4, _ => exact v_get (q0 := 21) (C := RX0) (T := TX0) (N := 4) 3 rfl rfl inX0 (by decide) rfl rfl hl0 hd k
  | 5, _ => exact v_get (q0 := 25) (C := RX0) (T := TX0) (N := 4) 3 rfl rfl inX0 (by decide) rfl rfl hl0 hd k
theorem pX0_size {t : Nat} (h0 : t < 6) {x : Int32} (hl0 : Cond.fieldLink own ix RX0 "size" "I" ∈ tb) (hd : decode cc pc = .ok (.putfield ix, 3)) (k : V g L K own cc nL ret (wX g ad) inj z res (sT σ t x) (pc + 3) lv st) : V g L K own cc nL ret (wX g ad) inj z res σ pc lv (.int x :: .ref (aLaw ad t) :: st) := by
  match t, h0 with
  | 0, _ => exact v_put (q0 := 5) (C := RX0) (T := TX0) (N := 4) (ty := .int) 3 rfl rfl inX0 tyX0_ok nmX0 (by decide) rfl rfl (by decide +kernel) rfl rfl (Nat.le_of_ble_eq_true rfl) rfl hl0 hd k
  | 1, _ => exact v_put (q0 := 9) (C := RX0) (T := TX0) (N := 4) (ty := .int) 3 rfl rfl inX0 tyX0_ok nmX0 (by decide) rfl rfl (by decide +kernel) rfl rfl (Nat.le_of_ble_eq_true rfl) rfl hl0 hd k
  | 2, _ => exact v_put (q0 := 13) (C := RX0) (T := TX0) (N := 4) (ty := .int) 3 rfl rfl inX0 tyX0_ok nmX0 (by decide) rfl rfl (by decide +kernel) rfl rfl (Nat.le_of_ble_eq_true rfl) rfl hl0 hd k
  | 3, _ => exact v_put (q0 := 17) (C := RX0) (T := TX0) (N := 4) (ty := .int) 3 rfl rfl inX0 tyX0_ok nmX0 (by decide) rfl rfl (by decide +kernel) rfl rfl (Nat.le_of_ble_eq_true rfl) rfl hl0 hd k
  | 4, _ => exact v_put (q0 := 21) (C := RX0) (T := TX0) (N := 4) (ty := .int) 3 rfl rfl inX0 tyX0_ok nmX0 (by decide) rfl rfl (by decide +kernel) rfl rfl (Nat.le_of_ble_eq_true rfl) rfl hl0 hd k
  | 5, _ => exact v_put (q0 := 25) (C := RX0) (T := TX0) (N := 4) (ty := .int) 3 rfl rfl inX0 tyX0_ok nmX0 (by decide) rfl rfl (by decide +kernel) rfl rfl (Nat.le_of_ble_eq_true rfl) rfl hl0 hd k
theorem inX1 : ∀ w ∈ u_ws RX1 TX1 7, w ∈ tb := by
  intro w hw
  obtain ⟨k, hk, rfl⟩ := List.mem_map.mp hw
  have hk := List.mem_range.mp hk
  match k, hk with
  | 0, _ => exact tb_mem 89 (by decide +kernel) (by decide +kernel)
  | 1, _ => exact tb_mem 91 (by decide +kernel) (by decide +kernel)
  | 2, _ => exact tb_mem 93 (by decide +kernel) (by decide +kernel)
  | 3, _ => exact tb_mem 95 (by decide +kernel) (by decide +kernel)
  | 4, _ => exact tb_mem 97 (by decide +kernel) (by decide +kernel)
  | 5, _ => exact tb_mem 99 (by decide +kernel) (by decide +kernel)
  | 6, _ => exact tb_mem 101 (by decide +kernel) (by decide +kernel)
def tpB {α : Type} (o : Option Unit) (r : Option α) : Option α := match o with
  | none => none
  | some _ => r
theorem gX1_tape (hl0 : Cond.fieldLink own ix RX1 "tape" "[I" ∈ tb) (hd : decode cc pc = .ok (.getfield ix, 3)) (k : V g L K own cc nL ret (wX g ad) inj z res σ (pc + 3) lv (.ref (aTape ad) :: st)) : V g L K own cc nL ret (wX g ad) inj z (tpB (xY σ) res) σ pc lv (.ref (aReader ad) :: st) := by
  cases h : xY σ with
  | none => exact v_none
  | some u => exact v_get (q0 := 4) (C := RX1) (T := TX1) (N := 7) (v := .ref (aTape ad)) 0 rfl rfl inX1 (by decide) (by show some (va_rf ((xY σ).map (fun _ => aTape ad))) = _; rw [h]; rfl) rfl hl0 hd k
theorem gX1_size (hl0 : Cond.fieldLink own ix RX1 "size" "I" ∈ tb) (hd : decode cc pc = .ok (.getfield ix, 3)) (k : V g L K own cc nL ret (wX g ad) inj z res σ (pc + 3) lv (.int (xI σ 3) :: st)) : V g L K own cc nL ret (wX g ad) inj z res σ pc lv (.ref (aReader ad) :: st) := v_get (q0 := 4) (C := RX1) (T := TX1) (N := 7) 1 rfl rfl inX1 (by decide) rfl rfl hl0 hd k
theorem pX1_size {x : Int32} (hl0 : Cond.fieldLink own ix RX1 "size" "I" ∈ tb) (hd : decode cc pc = .ok (.putfield ix, 3)) (k : V g L K own cc nL ret (wX g ad) inj z res (sI σ 3 x) (pc + 3) lv st) : V g L K own cc nL ret (wX g ad) inj z res σ pc lv (.int x :: .ref (aReader ad) :: st) := v_put (q0 := 4) (C := RX1) (T := TX1) (N := 7) (ty := .int) 1 rfl rfl inX1 tyX1_ok nmX1 (by decide) rfl rfl (by decide +kernel) rfl rfl (Nat.le_of_ble_eq_true rfl) rfl hl0 hd k
theorem gX1_at (hl0 : Cond.fieldLink own ix RX1 "at" "I" ∈ tb) (hd : decode cc pc = .ok (.getfield ix, 3)) (k : V g L K own cc nL ret (wX g ad) inj z res σ (pc + 3) lv (.int (xI σ 4) :: st)) : V g L K own cc nL ret (wX g ad) inj z res σ pc lv (.ref (aReader ad) :: st) := v_get (q0 := 4) (C := RX1) (T := TX1) (N := 7) 2 rfl rfl inX1 (by decide) rfl rfl hl0 hd k
theorem pX1_at {x : Int32} (hl0 : Cond.fieldLink own ix RX1 "at" "I" ∈ tb) (hd : decode cc pc = .ok (.putfield ix, 3)) (k : V g L K own cc nL ret (wX g ad) inj z res (sI σ 4 x) (pc + 3) lv st) : V g L K own cc nL ret (wX g ad) inj z res σ pc lv (.int x :: .ref (aReader ad) :: st) := v_put (q0 := 4) (C := RX1) (T := TX1) (N := 7) (ty := .int) 2 rfl rfl inX1 tyX1_ok nmX1 (by decide) rfl rfl (by decide +kernel) rfl rfl (Nat.le_of_ble_eq_true rfl) rfl hl0 hd k
theorem gX1_token (hl0 : Cond.fieldLink own ix RX1 "token" "I" ∈ tb) (hd : decode cc pc = .ok (.getfield ix, 3)) (k : V g L K own cc nL ret (wX g ad) inj z res σ (pc + 3) lv (.int (xI σ 5) :: st)) : V g L K own cc nL ret (wX g ad) inj z res σ pc lv (.ref (aReader ad) :: st) := v_get (q0 := 4) (C := RX1) (T := TX1) (N := 7) 3 rfl rfl inX1 (by decide) rfl rfl hl0 hd k
theorem pX1_token {x : Int32} (hl0 : Cond.fieldLink own ix RX1 "token" "I" ∈ tb) (hd : decode cc pc = .ok (.putfield ix, 3)) (k : V g L K own cc nL ret (wX g ad) inj z res (sI σ 5 x) (pc + 3) lv st) : V g L K own cc nL ret (wX g ad) inj z res σ pc lv (.int x :: .ref (aReader ad) :: st) := v_put (q0 := 4) (C := RX1) (T := TX1) (N := 7) (ty := .int) 3 rfl rfl inX1 tyX1_ok nmX1 (by decide) rfl rfl (by decide +kernel) rfl rfl (Nat.le_of_ble_eq_true rfl) rfl hl0 hd k
theorem gX1_place (hl0 : Cond.fieldLink own ix RX1 "place" "I" ∈ tb) (hd : decode cc pc = .ok (.getfield ix, 3)) (k : V g L K own cc nL ret (wX g ad) inj z res σ (pc + 3) lv (.int (xI σ 6) :: st)) : V g L K own cc nL ret (wX g ad) inj z res σ pc lv (.ref (aReader ad) :: st) := v_get (q0 := 4) (C := RX1) (T := TX1) (N := 7) 4 rfl rfl inX1 (by decide) rfl rfl hl0 hd k
theorem pX1_place {x : Int32} (hl0 : Cond.fieldLink own ix RX1 "place" "I" ∈ tb) (hd : decode cc pc = .ok (.putfield ix, 3)) (k : V g L K own cc nL ret (wX g ad) inj z res (sI σ 6 x) (pc + 3) lv st) : V g L K own cc nL ret (wX g ad) inj z res σ pc lv (.int x :: .ref (aReader ad) :: st) := v_put (q0 := 4) (C := RX1) (T := TX1) (N := 7) (ty := .int) 4 rfl rfl inX1 tyX1_ok nmX1 (by decide) rfl rfl (by decide +kernel) rfl rfl (Nat.le_of_ble_eq_true rfl) rfl hl0 hd k
theorem gX1_fault (hl0 : Cond.fieldLink own ix RX1 "fault" "I" ∈ tb) (hd : decode cc pc = .ok (.getfield ix, 3)) (k : V g L K own cc nL ret (wX g ad) inj z res σ (pc + 3) lv (.int (xI σ 7) :: st)) : V g L K own cc nL ret (wX g ad) inj z res σ pc lv (.ref (aReader ad) :: st) := v_get (q0 := 4) (C := RX1) (T := TX1) (N := 7) 5 rfl rfl inX1 (by decide) rfl rfl hl0 hd k
theorem pX1_fault {x : Int32} (hl0 : Cond.fieldLink own ix RX1 "fault" "I" ∈ tb) (hd : decode cc pc = .ok (.putfield ix, 3)) (k : V g L K own cc nL ret (wX g ad) inj z res (sI σ 7 x) (pc + 3) lv st) : V g L K own cc nL ret (wX g ad) inj z res σ pc lv (.int x :: .ref (aReader ad) :: st) := v_put (q0 := 4) (C := RX1) (T := TX1) (N := 7) (ty := .int) 5 rfl rfl inX1 tyX1_ok nmX1 (by decide) rfl rfl (by decide +kernel) rfl rfl (Nat.le_of_ble_eq_true rfl) rfl hl0 hd k
def lawB {α : Type} (o : Option Nat) (kf : Nat → Option α) : Option α := match o with
  | none => none
  | some t => if t < 6 then kf t else none
theorem gX1_law {kf : Nat → Option (ρ × GX)} (hl0 : Cond.fieldLink own ix RX1 "law" "LLighthouseLiedTo$Law;" ∈ tb) (hd : decode cc pc = .ok (.getfield ix, 3)) (k : ∀ t : Nat, t < 6 → V g L K own cc nL ret (wX g ad) inj z (kf t) σ (pc + 3) lv (.ref (aLaw ad t) :: st)) : V g L K own cc nL ret (wX g ad) inj z (lawB (xV σ) kf) σ pc lv (.ref (aReader ad) :: st) := by
  cases h : xV σ with
  | none => exact v_none
  | some t => exact v_case (fun h0 => v_get (q0 := 4) (C := RX1) (T := TX1) (N := 7) (v := .ref (aLaw ad t)) 6 rfl rfl inX1 (by decide) (by show some (va_rf ((xV σ).map (aLaw ad))) = _; rw [h]; rfl) rfl hl0 hd (k t h0)) (fun _ => v_none)
theorem pX1_law {t : Nat} (hl0 : Cond.fieldLink own ix RX1 "law" "LLighthouseLiedTo$Law;" ∈ tb) (hd : decode cc pc = .ok (.putfield ix, 3)) (k : V g L K own cc nL ret (wX g ad) inj z res (sV σ (some t)) (pc + 3) lv st) : V g L K own cc nL ret (wX g ad) inj z res σ pc lv (.ref (aLaw ad t) :: .ref (aReader ad) :: st) := v_put (q0 := 4) (C := RX1) (T := TX1) (N := 7) (ty := .object "LighthouseLiedTo$Law") 6 rfl rfl inX1 tyX1_ok nmX1 (by decide) rfl rfl (by decide +kernel) rfl rfl (Nat.le_of_ble_eq_true rfl) rfl hl0 hd k
theorem inX2 : ∀ w ∈ u_ws RX2 TX2 12, w ∈ tb := by
  intro w hw
  obtain ⟨k, hk, rfl⟩ := List.mem_map.mp hw
  have hk := List.mem_range.mp hk
  match k, hk with
  | 0, _ => exact tb_mem 173 (by decide +kernel) (by decide +kernel)
  | 1, _ => exact tb_mem 175 (by decide +kernel) (by decide +kernel)
  | 2, _ => exact tb_mem 177 (by decide +kernel) (by decide +kernel)
  | 3, _ => exact tb_mem 179 (by decide +kernel) (by decide +kernel)
  | 4, _ => exact tb_mem 181 (by decide +kernel) (by decide +kernel)
  | 5, _ => exact tb_mem 183 (by decide +kernel) (by decide +kernel)
  | 6, _ => exact tb_mem 185 (by decide +kernel) (by decide +kernel)
  | 7, _ => exact tb_mem 187 (by decide +kernel) (by decide +kernel)
  | 8, _ => exact tb_mem 189 (by decide +kernel) (by decide +kernel)
  | 9, _ => exact tb_mem 191 (by decide +kernel) (by decide +kernel)
  | 10, _ => exact tb_mem 193 (by decide +kernel) (by decide +kernel)
  | 11, _ => exact tb_mem 195 (by decide +kernel) (by decide +kernel)
theorem gX2_texts {y : Nat} (h0 : y < 3) (hl0 : Cond.fieldLink own ix RX2 "texts" "[LLighthouseLiedTo$Law;" ∈ tb) (hd : decode cc pc = .ok (.getfield ix, 3)) (k : V g L K own cc nL ret (wX g ad) inj z res σ (pc + 3) lv (.ref (aTexts ad) :: st)) : V g L K own cc nL ret (wX g ad) inj z res σ pc lv (.ref (aSea ad y) :: st) := by
  match y, h0 with
  | 0, _ => exact v_get (q0 := 29) (C := RX2) (T := TX2) (N := 12) 0 rfl rfl inX2 (by decide) rfl rfl hl0 hd k
  | 1, _ => exact v_get (q0 := 35) (C := RX2) (T := TX2) (N := 12) 0 rfl rfl inX2 (by decide) rfl rfl hl0 hd k
  | 2, _ => exact v_get (q0 := 41) (C := RX2) (T := TX2) (N := 12) 0 rfl rfl inX2 (by decide) rfl rfl hl0 hd k
theorem gX2_belief {y : Nat} (h0 : y < 3) (hl0 : Cond.fieldLink own ix RX2 "belief" "[I" ∈ tb) (hd : decode cc pc = .ok (.getfield ix, 3)) (k : V g L K own cc nL ret (wX g ad) inj z res σ (pc + 3) lv (.ref (aSeaA ad y 0) :: st)) : V g L K own cc nL ret (wX g ad) inj z res σ pc lv (.ref (aSea ad y) :: st) := by
  match y, h0 with
  | 0, _ => exact v_get (q0 := 29) (C := RX2) (T := TX2) (N := 12) 1 rfl rfl inX2 (by decide) rfl rfl hl0 hd k
  | 1, _ => exact v_get (q0 := 35) (C := RX2) (T := TX2) (N := 12) 1 rfl rfl inX2 (by decide) rfl rfl hl0 hd k
  | 2, _ => exact v_get (q0 := 41) (C := RX2) (T := TX2) (N := 12) 1 rfl rfl inX2 (by decide) rfl rfl hl0 hd k
theorem gX2_kind {y : Nat} (h0 : y < 3) (hl0 : Cond.fieldLink own ix RX2 "kind" "[I" ∈ tb) (hd : decode cc pc = .ok (.getfield ix, 3)) (k : V g L K own cc nL ret (wX g ad) inj z res σ (pc + 3) lv (.ref (aSeaA ad y 1) :: st)) : V g L K own cc nL ret (wX g ad) inj z res σ pc lv (.ref (aSea ad y) :: st) := by
  match y, h0 with
  | 0, _ => exact v_get (q0 := 29) (C := RX2) (T := TX2) (N := 12) 2 rfl rfl inX2 (by decide) rfl rfl hl0 hd k
  | 1, _ => exact v_get (q0 := 35) (C := RX2) (T := TX2) (N := 12) 2 rfl rfl inX2 (by decide) rfl rfl hl0 hd k
  | 2, _ => exact v_get (q0 := 41) (C := RX2) (T := TX2) (N := 12) 2 rfl rfl inX2 (by decide) rfl rfl hl0 hd k
theorem gX2_more {y : Nat} (h0 : y < 3) (hl0 : Cond.fieldLink own ix RX2 "more" "[I" ∈ tb) (hd : decode cc pc = .ok (.getfield ix, 3)) (k : V g L K own cc nL ret (wX g ad) inj z res σ (pc + 3) lv (.ref (aSeaA ad y 2) :: st)) : V g L K own cc nL ret (wX g ad) inj z res σ pc lv (.ref (aSea ad y) :: st) := by
  match y, h0 with
  | 0, _ => exact v_get (q0 := 29) (C := RX2) (T := TX2) (N := 12) 3 rfl rfl inX2 (by decide) rfl rfl hl0 hd k
  | 1, _ => exact v_get (q0 := 35) (C := RX2) (T := TX2) (N := 12) 3 rfl rfl inX2 (by decide) rfl rfl hl0 hd k
  | 2, _ => exact v_get (q0 := 41) (C := RX2) (T := TX2) (N := 12) 3 rfl rfl inX2 (by decide) rfl rfl hl0 hd k
theorem gX2_cell {y : Nat} (h0 : y < 3) (hl0 : Cond.fieldLink own ix RX2 "cell" "[I" ∈ tb) (hd : decode cc pc = .ok (.getfield ix, 3)) (k : V g L K own cc nL ret (wX g ad) inj z res σ (pc + 3) lv (.ref (aSeaA ad y 3) :: st)) : V g L K own cc nL ret (wX g ad) inj z res σ pc lv (.ref (aSea ad y) :: st) := by
  match y, h0 with
  | 0, _ => exact v_get (q0 := 29) (C := RX2) (T := TX2) (N := 12) 4 rfl rfl inX2 (by decide) rfl rfl hl0 hd k
  | 1, _ => exact v_get (q0 := 35) (C := RX2) (T := TX2) (N := 12) 4 rfl rfl inX2 (by decide) rfl rfl hl0 hd k
  | 2, _ => exact v_get (q0 := 41) (C := RX2) (T := TX2) (N := 12) 4 rfl rfl inX2 (by decide) rfl rfl hl0 hd k
theorem gX2_draught {y : Nat} (h0 : y < 3) (hl0 : Cond.fieldLink own ix RX2 "draught" "[I" ∈ tb) (hd : decode cc pc = .ok (.getfield ix, 3)) (k : V g L K own cc nL ret (wX g ad) inj z res σ (pc + 3) lv (.ref (aSeaA ad y 4) :: st)) : V g L K own cc nL ret (wX g ad) inj z res σ pc lv (.ref (aSea ad y) :: st) := by
  match y, h0 with
  | 0, _ => exact v_get (q0 := 29) (C := RX2) (T := TX2) (N := 12) 5 rfl rfl inX2 (by decide) rfl rfl hl0 hd k
  | 1, _ => exact v_get (q0 := 35) (C := RX2) (T := TX2) (N := 12) 5 rfl rfl inX2 (by decide) rfl rfl hl0 hd k
  | 2, _ => exact v_get (q0 := 41) (C := RX2) (T := TX2) (N := 12) 5 rfl rfl inX2 (by decide) rfl rfl hl0 hd k
theorem gX2_rocks {y : Nat} (h0 : y < 3) (hl0 : Cond.fieldLink own ix RX2 "rocks" "J" ∈ tb) (hd : decode cc pc = .ok (.getfield ix, 3)) (k : V g L K own cc nL ret (wX g ad) inj z res σ (pc + 3) lv (.long (xR σ y) :: st)) : V g L K own cc nL ret (wX g ad) inj z res σ pc lv (.ref (aSea ad y) :: st) := by
  match y, h0 with
  | 0, _ => exact v_get (q0 := 29) (C := RX2) (T := TX2) (N := 12) 6 rfl rfl inX2 (by decide) rfl rfl hl0 hd k
  | 1, _ => exact v_get (q0 := 35) (C := RX2) (T := TX2) (N := 12) 6 rfl rfl inX2 (by decide) rfl rfl hl0 hd k
  | 2, _ => exact v_get (q0 := 41) (C := RX2) (T := TX2) (N := 12) 6 rfl rfl inX2 (by decide) rfl rfl hl0 hd k
theorem pX2_rocks {y : Nat} (h0 : y < 3) {x : Int64} (hl0 : Cond.fieldLink own ix RX2 "rocks" "J" ∈ tb) (hd : decode cc pc = .ok (.putfield ix, 3)) (k : V g L K own cc nL ret (wX g ad) inj z res (sR σ y x) (pc + 3) lv st) : V g L K own cc nL ret (wX g ad) inj z res σ pc lv (.long x :: .ref (aSea ad y) :: st) := by
  match y, h0 with
  | 0, _ => exact v_put (q0 := 29) (C := RX2) (T := TX2) (N := 12) (ty := .long) 6 rfl rfl inX2 tyX2_ok nmX2 (by decide) rfl rfl (by decide +kernel) rfl rfl (Nat.le_of_ble_eq_true rfl) rfl hl0 hd k
  | 1, _ => exact v_put (q0 := 35) (C := RX2) (T := TX2) (N := 12) (ty := .long) 6 rfl rfl inX2 tyX2_ok nmX2 (by decide) rfl rfl (by decide +kernel) rfl rfl (Nat.le_of_ble_eq_true rfl) rfl hl0 hd k
  | 2, _ => exact v_put (q0 := 41) (C := RX2) (T := TX2) (N := 12) (ty := .long) 6 rfl rfl inX2 tyX2_ok nmX2 (by decide) rfl rfl (by decide +kernel) rfl rfl (Nat.le_of_ble_eq_true rfl) rfl hl0 hd k
theorem gX2_lost {y : Nat} (h0 : y < 3) (hl0 : Cond.fieldLink own ix RX2 "lost" "I" ∈ tb) (hd : decode cc pc = .ok (.getfield ix, 3)) (k : V g L K own cc nL ret (wX g ad) inj z res σ (pc + 3) lv (.int (xS σ y 0) :: st)) : V g L K own cc nL ret (wX g ad) inj z res σ pc lv (.ref (aSea ad y) :: st) := by
  match y, h0 with
  | 0, _ => exact v_get (q0 := 29) (C := RX2) (T := TX2) (N := 12) 7 rfl rfl inX2 (by decide) rfl rfl hl0 hd k
  | 1, _ => exact v_get (q0 := 35) (C := RX2) (T := TX2) (N := 12) 7 rfl rfl inX2 (by decide) rfl rfl hl0 hd k
  | 2, _ => exact v_get (q0 := 41) (C := RX2) (T := TX2) (N := 12) 7 rfl rfl inX2 (by decide) rfl rfl hl0 hd k
theorem pX2_lost {y : Nat} (h0 : y < 3) {x : Int32} (hl0 : Cond.fieldLink own ix RX2 "lost" "I" ∈ tb) (hd : decode cc pc = .ok (.putfield ix, 3)) (k : V g L K own cc nL ret (wX g ad) inj z res (sS σ y 0 x) (pc + 3) lv st) : V g L K own cc nL ret (wX g ad) inj z res σ pc lv (.int x :: .ref (aSea ad y) :: st) := by
  match y, h0 with
  | 0, _ => exact v_put (q0 := 29) (C := RX2) (T := TX2) (N := 12) (ty := .int) 7 rfl rfl inX2 tyX2_ok nmX2 (by decide) rfl rfl (by decide +kernel) rfl rfl (Nat.le_of_ble_eq_true rfl) rfl hl0 hd k
  | 1, _ => exact v_put (q0 := 35) (C := RX2) (T := TX2) (N := 12) (ty := .int) 7 rfl rfl inX2 tyX2_ok nmX2 (by decide) rfl rfl (by decide +kernel) rfl rfl (Nat.le_of_ble_eq_true rfl) rfl hl0 hd k
  | 2, _ => exact v_put (q0 := 41) (C := RX2) (T := TX2) (N := 12) (ty := .int) 7 rfl rfl inX2 tyX2_ok nmX2 (by decide) rfl rfl (by decide +kernel) rfl rfl (Nat.le_of_ble_eq_true rfl) rfl hl0 hd k
theorem gX2_ships {y : Nat} (h0 : y < 3) (hl0 : Cond.fieldLink own ix RX2 "ships" "I" ∈ tb) (hd : decode cc pc = .ok (.getfield ix, 3)) (k : V g L K own cc nL ret (wX g ad) inj z res σ (pc + 3) lv (.int (xS σ y 1) :: st)) : V g L K own cc nL ret (wX g ad) inj z res σ pc lv (.ref (aSea ad y) :: st) := by
  match y, h0 with
  | 0, _ => exact v_get (q0 := 29) (C := RX2) (T := TX2) (N := 12) 8 rfl rfl inX2 (by decide) rfl rfl hl0 hd k
  | 1, _ => exact v_get (q0 := 35) (C := RX2) (T := TX2) (N := 12) 8 rfl rfl inX2 (by decide) rfl rfl hl0 hd k
  | 2, _ => exact v_get (q0 := 41) (C := RX2) (T := TX2) (N := 12) 8 rfl rfl inX2 (by decide) rfl rfl hl0 hd k
theorem pX2_ships {y : Nat} (h0 : y < 3) {x : Int32} (hl0 : Cond.fieldLink own ix RX2 "ships" "I" ∈ tb) (hd : decode cc pc = .ok (.putfield ix, 3)) (k : V g L K own cc nL ret (wX g ad) inj z res (sS σ y 1 x) (pc + 3) lv st) : V g L K own cc nL ret (wX g ad) inj z res σ pc lv (.int x :: .ref (aSea ad y) :: st) := by
  match y, h0 with
  | 0, _ => exact v_put (q0 := 29) (C := RX2) (T := TX2) (N := 12) (ty := .int) 8 rfl rfl inX2 tyX2_ok nmX2 (by decide) rfl rfl (by decide +kernel) rfl rfl (Nat.le_of_ble_eq_true rfl) rfl hl0 hd k
  | 1, _ => exact v_put (q0 := 35) (C := RX2) (T := TX2) (N := 12) (ty := .int) 8 rfl rfl inX2 tyX2_ok nmX2 (by decide) rfl rfl (by decide +kernel) rfl rfl (Nat.le_of_ble_eq_true rfl) rfl hl0 hd k
  | 2, _ => exact v_put (q0 := 41) (C := RX2) (T := TX2) (N := 12) (ty := .int) 8 rfl rfl inX2 tyX2_ok nmX2 (by decide) rfl rfl (by decide +kernel) rfl rfl (Nat.le_of_ble_eq_true rfl) rfl hl0 hd k
theorem gX2_doubt {y : Nat} (h0 : y < 3) (hl0 : Cond.fieldLink own ix RX2 "doubt" "I" ∈ tb) (hd : decode cc pc = .ok (.getfield ix, 3)) (k : V g L K own cc nL ret (wX g ad) inj z res σ (pc + 3) lv (.int (xS σ y 2) :: st)) : V g L K own cc nL ret (wX g ad) inj z res σ pc lv (.ref (aSea ad y) :: st) := by
  match y, h0 with
  | 0, _ => exact v_get (q0 := 29) (C := RX2) (T := TX2) (N := 12) 9 rfl rfl inX2 (by decide) rfl rfl hl0 hd k
  | 1, _ => exact v_get (q0 := 35) (C := RX2) (T := TX2) (N := 12) 9 rfl rfl inX2 (by decide) rfl rfl hl0 hd k
  | 2, _ => exact v_get (q0 := 41) (C := RX2) (T := TX2) (N := 12) 9 rfl rfl inX2 (by decide) rfl rfl hl0 hd k
theorem pX2_doubt {y : Nat} (h0 : y < 3) {x : Int32} (hl0 : Cond.fieldLink own ix RX2 "doubt" "I" ∈ tb) (hd : decode cc pc = .ok (.putfield ix, 3)) (k : V g L K own cc nL ret (wX g ad) inj z res (sS σ y 2 x) (pc + 3) lv st) : V g L K own cc nL ret (wX g ad) inj z res σ pc lv (.int x :: .ref (aSea ad y) :: st) := by
  match y, h0 with
  | 0, _ => exact v_put (q0 := 29) (C := RX2) (T := TX2) (N := 12) (ty := .int) 9 rfl rfl inX2 tyX2_ok nmX2 (by decide) rfl rfl (by decide +kernel) rfl rfl (Nat.le_of_ble_eq_true rfl) rfl hl0 hd k
  | 1, _ => exact v_put (q0 := 35) (C := RX2) (T := TX2) (N := 12) (ty := .int) 9 rfl rfl inX2 tyX2_ok nmX2 (by decide) rfl rfl (by decide +kernel) rfl rfl (Nat.le_of_ble_eq_true rfl) rfl hl0 hd k
  | 2, _ => exact v_put (q0 := 41) (C := RX2) (T := TX2) (N := 12) (ty := .int) 9 rfl rfl inX2 tyX2_ok nmX2 (by decide) rfl rfl (by decide +kernel) rfl rfl (Nat.le_of_ble_eq_true rfl) rfl hl0 hd k
theorem gX2_night {y : Nat} (h0 : y < 3) (hl0 : Cond.fieldLink own ix RX2 "night" "I" ∈ tb) (hd : decode cc pc = .ok (.getfield ix, 3)) (k : V g L K own cc nL ret (wX g ad) inj z res σ (pc + 3) lv (.int (xS σ y 3) :: st)) : V g L K own cc nL ret (wX g ad) inj z res σ pc lv (.ref (aSea ad y) :: st) := by
  match y, h0 with
  | 0, _ => exact v_get (q0 := 29) (C := RX2) (T := TX2) (N := 12) 10 rfl rfl inX2 (by decide) rfl rfl hl0 hd k
  | 1, _ => exact v_get (q0 := 35) (C := RX2) (T := TX2) (N := 12) 10 rfl rfl inX2 (by decide) rfl rfl hl0 hd k
  | 2, _ => exact v_get (q0 := 41) (C := RX2) (T := TX2) (N := 12) 10 rfl rfl inX2 (by decide) rfl rfl hl0 hd k
theorem pX2_night {y : Nat} (h0 : y < 3) {x : Int32} (hl0 : Cond.fieldLink own ix RX2 "night" "I" ∈ tb) (hd : decode cc pc = .ok (.putfield ix, 3)) (k : V g L K own cc nL ret (wX g ad) inj z res (sS σ y 3 x) (pc + 3) lv st) : V g L K own cc nL ret (wX g ad) inj z res σ pc lv (.int x :: .ref (aSea ad y) :: st) := by
  match y, h0 with
  | 0, _ => exact v_put (q0 := 29) (C := RX2) (T := TX2) (N := 12) (ty := .int) 10 rfl rfl inX2 tyX2_ok nmX2 (by decide) rfl rfl (by decide +kernel) rfl rfl (Nat.le_of_ble_eq_true rfl) rfl hl0 hd k
  | 1, _ => exact v_put (q0 := 35) (C := RX2) (T := TX2) (N := 12) (ty := .int) 10 rfl rfl inX2 tyX2_ok nmX2 (by decide) rfl rfl (by decide +kernel) rfl rfl (Nat.le_of_ble_eq_true rfl) rfl hl0 hd k
  | 2, _ => exact v_put (q0 := 41) (C := RX2) (T := TX2) (N := 12) (ty := .int) 10 rfl rfl inX2 tyX2_ok nmX2 (by decide) rfl rfl (by decide +kernel) rfl rfl (Nat.le_of_ble_eq_true rfl) rfl hl0 hd k
theorem gX2_law {y : Nat} (h0 : y < 3) (hl0 : Cond.fieldLink own ix RX2 "law" "I" ∈ tb) (hd : decode cc pc = .ok (.getfield ix, 3)) (k : V g L K own cc nL ret (wX g ad) inj z res σ (pc + 3) lv (.int (xS σ y 4) :: st)) : V g L K own cc nL ret (wX g ad) inj z res σ pc lv (.ref (aSea ad y) :: st) := by
  match y, h0 with
  | 0, _ => exact v_get (q0 := 29) (C := RX2) (T := TX2) (N := 12) 11 rfl rfl inX2 (by decide) rfl rfl hl0 hd k
  | 1, _ => exact v_get (q0 := 35) (C := RX2) (T := TX2) (N := 12) 11 rfl rfl inX2 (by decide) rfl rfl hl0 hd k
  | 2, _ => exact v_get (q0 := 41) (C := RX2) (T := TX2) (N := 12) 11 rfl rfl inX2 (by decide) rfl rfl hl0 hd k
theorem pX2_law {y : Nat} (h0 : y < 3) {x : Int32} (hl0 : Cond.fieldLink own ix RX2 "law" "I" ∈ tb) (hd : decode cc pc = .ok (.putfield ix, 3)) (k : V g L K own cc nL ret (wX g ad) inj z res (sS σ y 4 x) (pc + 3) lv st) : V g L K own cc nL ret (wX g ad) inj z res σ pc lv (.int x :: .ref (aSea ad y) :: st) := by
  match y, h0 with
  | 0, _ => exact v_put (q0 := 29) (C := RX2) (T := TX2) (N := 12) (ty := .int) 11 rfl rfl inX2 tyX2_ok nmX2 (by decide) rfl rfl (by decide +kernel) rfl rfl (Nat.le_of_ble_eq_true rfl) rfl hl0 hd k
  | 1, _ => exact v_put (q0 := 35) (C := RX2) (T := TX2) (N := 12) (ty := .int) 11 rfl rfl inX2 tyX2_ok nmX2 (by decide) rfl rfl (by decide +kernel) rfl rfl (Nat.le_of_ble_eq_true rfl) rfl hl0 hd k
  | 2, _ => exact v_put (q0 := 41) (C := RX2) (T := TX2) (N := 12) (ty := .int) 11 rfl rfl inX2 tyX2_ok nmX2 (by decide) rfl rfl (by decide +kernel) rfl rfl (Nat.le_of_ble_eq_true rfl) rfl hl0 hd k
theorem inX3 : ∀ w ∈ u_ws RX3 TX3 3, w ∈ tb := by
  intro w hw
  obtain ⟨k, hk, rfl⟩ := List.mem_map.mp hw
  have hk := List.mem_range.mp hk
  match k, hk with
  | 0, _ => exact tb_mem 134 (by decide +kernel) (by decide +kernel)
  | 1, _ => exact tb_mem 136 (by decide +kernel) (by decide +kernel)
  | 2, _ => exact tb_mem 138 (by decide +kernel) (by decide +kernel)
theorem gX3_numbers {q : Nat} (h0 : q < 4) (hl0 : Cond.fieldLink own ix RX3 "numbers" "[I" ∈ tb) (hd : decode cc pc = .ok (.getfield ix, 3)) (k : V g L K own cc nL ret (wX g ad) inj z res σ (pc + 3) lv (.ref (aNums ad q) :: st)) : V g L K own cc nL ret (wX g ad) inj z res σ pc lv (.ref (aSheet ad q) :: st) := by
  match q, h0 with
  | 0, _ => exact v_get (q0 := 47) (C := RX3) (T := TX3) (N := 3) 0 rfl rfl inX3 (by decide) rfl rfl hl0 hd k
  | 1, _ => exact v_get (q0 := 49) (C := RX3) (T := TX3) (N := 3) 0 rfl rfl inX3 (by decide) rfl rfl hl0 hd k
  | 2, _ => exact v_get (q0 := 51) (C := RX3) (T := TX3) (N := 3) 0 rfl rfl inX3 (by decide) rfl rfl hl0 hd k
  | 3, _ => exact v_get (q0 := 53) (C := RX3) (T := TX3) (N := 3) 0 rfl rfl inX3 (by decide) rfl rfl hl0 hd k
theorem gX3_sort {q : Nat} (h0 : q < 4) (hl0 : Cond.fieldLink own ix RX3 "sort" "I" ∈ tb) (hd : decode cc pc = .ok (.getfield ix, 3)) (k : V g L K own cc nL ret (wX g ad) inj z res σ (pc + 3) lv (.int (xH σ q 0) :: st)) : V g L K own cc nL ret (wX g ad) inj z res σ pc lv (.ref (aSheet ad q) :: st) := by
  match q, h0 with
  | 0, _ => exact v_get (q0 := 47) (C := RX3) (T := TX3) (N := 3) 1 rfl rfl inX3 (by decide) rfl rfl hl0 hd k
  | 1, _ => exact v_get (q0 := 49) (C := RX3) (T := TX3) (N := 3) 1 rfl rfl inX3 (by decide) rfl rfl hl0 hd k
  | 2, _ => exact v_get (q0 := 51) (C := RX3) (T := TX3) (N := 3) 1 rfl rfl inX3 (by decide) rfl rfl hl0 hd k
  | 3, _ => exact v_get (q0 := 53) (C := RX3) (T := TX3) (N := 3) 1 rfl rfl inX3 (by decide) rfl rfl hl0 hd k
theorem pX3_sort {q : Nat} (h0 : q < 4) {x : Int32} (hl0 : Cond.fieldLink own ix RX3 "sort" "I" ∈ tb) (hd : decode cc pc = .ok (.putfield ix, 3)) (k : V g L K own cc nL ret (wX g ad) inj z res (sH σ q 0 x) (pc + 3) lv st) : V g L K own cc nL ret (wX g ad) inj z res σ pc lv (.int x :: .ref (aSheet ad q) :: st) := by
  match q, h0 with
  | 0, _ => exact v_put (q0 := 47) (C := RX3) (T := TX3) (N := 3) (ty := .int) 1 rfl rfl inX3 tyX3_ok nmX3 (by decide) rfl rfl (by decide +kernel) rfl rfl (Nat.le_of_ble_eq_true rfl) rfl hl0 hd k
  | 1, _ => exact v_put (q0 := 49) (C := RX3) (T := TX3) (N := 3) (ty := .int) 1 rfl rfl inX3 tyX3_ok nmX3 (by decide) rfl rfl (by decide +kernel) rfl rfl (Nat.le_of_ble_eq_true rfl) rfl hl0 hd k
  | 2, _ => exact v_put (q0 := 51) (C := RX3) (T := TX3) (N := 3) (ty := .int) 1 rfl rfl inX3 tyX3_ok nmX3 (by decide) rfl rfl (by decide +kernel) rfl rfl (Nat.le_of_ble_eq_true rfl) rfl hl0 hd k
  | 3, _ => exact v_put (q0 := 53) (C := RX3) (T := TX3) (N := 3) (ty := .int) 1 rfl rfl inX3 tyX3_ok nmX3 (by decide) rfl rfl (by decide +kernel) rfl rfl (Nat.le_of_ble_eq_true rfl) rfl hl0 hd k
theorem gX3_size {q : Nat} (h0 : q < 4) (hl0 : Cond.fieldLink own ix RX3 "size" "I" ∈ tb) (hd : decode cc pc = .ok (.getfield ix, 3)) (k : V g L K own cc nL ret (wX g ad) inj z res σ (pc + 3) lv (.int (xH σ q 1) :: st)) : V g L K own cc nL ret (wX g ad) inj z res σ pc lv (.ref (aSheet ad q) :: st) := by
  match q, h0 with
  | 0, _ => exact v_get (q0 := 47) (C := RX3) (T := TX3) (N := 3) 2 rfl rfl inX3 (by decide) rfl rfl hl0 hd k
  | 1, _ => exact v_get (q0 := 49) (C := RX3) (T := TX3) (N := 3) 2 rfl rfl inX3 (by decide) rfl rfl hl0 hd k
  | 2, _ => exact v_get (q0 := 51) (C := RX3) (T := TX3) (N := 3) 2 rfl rfl inX3 (by decide) rfl rfl hl0 hd k
  | 3, _ => exact v_get (q0 := 53) (C := RX3) (T := TX3) (N := 3) 2 rfl rfl inX3 (by decide) rfl rfl hl0 hd k
theorem pX3_size {q : Nat} (h0 : q < 4) {x : Int32} (hl0 : Cond.fieldLink own ix RX3 "size" "I" ∈ tb) (hd : decode cc pc = .ok (.putfield ix, 3)) (k : V g L K own cc nL ret (wX g ad) inj z res (sH σ q 1 x) (pc + 3) lv st) : V g L K own cc nL ret (wX g ad) inj z res σ pc lv (.int x :: .ref (aSheet ad q) :: st) := by
  match q, h0 with
  | 0, _ => exact v_put (q0 := 47) (C := RX3) (T := TX3) (N := 3) (ty := .int) 2 rfl rfl inX3 tyX3_ok nmX3 (by decide) rfl rfl (by decide +kernel) rfl rfl (Nat.le_of_ble_eq_true rfl) rfl hl0 hd k
  | 1, _ => exact v_put (q0 := 49) (C := RX3) (T := TX3) (N := 3) (ty := .int) 2 rfl rfl inX3 tyX3_ok nmX3 (by decide) rfl rfl (by decide +kernel) rfl rfl (Nat.le_of_ble_eq_true rfl) rfl hl0 hd k
  | 2, _ => exact v_put (q0 := 51) (C := RX3) (T := TX3) (N := 3) (ty := .int) 2 rfl rfl inX3 tyX3_ok nmX3 (by decide) rfl rfl (by decide +kernel) rfl rfl (Nat.le_of_ble_eq_true rfl) rfl hl0 hd k
  | 3, _ => exact v_put (q0 := 53) (C := RX3) (T := TX3) (N := 3) (ty := .int) 2 rfl rfl inX3 tyX3_ok nmX3 (by decide) rfl rfl (by decide +kernel) rfl rfl (Nat.le_of_ble_eq_true rfl) rfl hl0 hd k
theorem inX4 : ∀ w ∈ u_ws RX4 TX4 10, w ∈ tb := by
  intro w hw
  obtain ⟨k, hk, rfl⟩ := List.mem_map.mp hw
  have hk := List.mem_range.mp hk
  match k, hk with
  | 0, _ => exact tb_mem 335 (by decide +kernel) (by decide +kernel)
  | 1, _ => exact tb_mem 337 (by decide +kernel) (by decide +kernel)
  | 2, _ => exact tb_mem 339 (by decide +kernel) (by decide +kernel)
  | 3, _ => exact tb_mem 341 (by decide +kernel) (by decide +kernel)
  | 4, _ => exact tb_mem 343 (by decide +kernel) (by decide +kernel)
  | 5, _ => exact tb_mem 345 (by decide +kernel) (by decide +kernel)
  | 6, _ => exact tb_mem 347 (by decide +kernel) (by decide +kernel)
  | 7, _ => exact tb_mem 349 (by decide +kernel) (by decide +kernel)
  | 8, _ => exact tb_mem 351 (by decide +kernel) (by decide +kernel)
  | 9, _ => exact tb_mem 353 (by decide +kernel) (by decide +kernel)
theorem gX4_texts (hl0 : Cond.fieldLink own ix RX4 "texts" "[LLighthouseLiedTo$Law;" ∈ tb) (hd : decode cc pc = .ok (.getfield ix, 3)) (k : V g L K own cc nL ret (wX g ad) inj z res σ (pc + 3) lv (.ref (aTexts ad) :: st)) : V g L K own cc nL ret (wX g ad) inj z res σ pc lv (.ref (aMain ad) :: st) := v_get (q0 := 0) (C := RX4) (T := TX4) (N := 10) 0 rfl rfl inX4 (by decide) rfl rfl hl0 hd k
theorem gX4_now (hl0 : Cond.fieldLink own ix RX4 "now" "LLighthouseLiedTo$Sea;" ∈ tb) (hd : decode cc pc = .ok (.getfield ix, 3)) (k : V g L K own cc nL ret (wX g ad) inj z res σ (pc + 3) lv (.ref (aSea ad 0) :: st)) : V g L K own cc nL ret (wX g ad) inj z res σ pc lv (.ref (aMain ad) :: st) := v_get (q0 := 0) (C := RX4) (T := TX4) (N := 10) 1 rfl rfl inX4 (by decide) rfl rfl hl0 hd k
theorem gX4_thought (hl0 : Cond.fieldLink own ix RX4 "thought" "LLighthouseLiedTo$Sea;" ∈ tb) (hd : decode cc pc = .ok (.getfield ix, 3)) (k : V g L K own cc nL ret (wX g ad) inj z res σ (pc + 3) lv (.ref (aSea ad 1) :: st)) : V g L K own cc nL ret (wX g ad) inj z res σ pc lv (.ref (aMain ad) :: st) := v_get (q0 := 0) (C := RX4) (T := TX4) (N := 10) 2 rfl rfl inX4 (by decide) rfl rfl hl0 hd k
theorem gX4_kept (hl0 : Cond.fieldLink own ix RX4 "kept" "LLighthouseLiedTo$Sea;" ∈ tb) (hd : decode cc pc = .ok (.getfield ix, 3)) (k : V g L K own cc nL ret (wX g ad) inj z res σ (pc + 3) lv (.ref (aSea ad 2) :: st)) : V g L K own cc nL ret (wX g ad) inj z res σ pc lv (.ref (aMain ad) :: st) := v_get (q0 := 0) (C := RX4) (T := TX4) (N := 10) 3 rfl rfl inX4 (by decide) rfl rfl hl0 hd k
theorem gX4_sheets (hl0 : Cond.fieldLink own ix RX4 "sheets" "[LLighthouseLiedTo$Sheet;" ∈ tb) (hd : decode cc pc = .ok (.getfield ix, 3)) (k : V g L K own cc nL ret (wX g ad) inj z res σ (pc + 3) lv (.ref (aSheets ad) :: st)) : V g L K own cc nL ret (wX g ad) inj z res σ pc lv (.ref (aMain ad) :: st) := v_get (q0 := 0) (C := RX4) (T := TX4) (N := 10) 4 rfl rfl inX4 (by decide) rfl rfl hl0 hd k
theorem gX4_tape (hl0 : Cond.fieldLink own ix RX4 "tape" "[I" ∈ tb) (hd : decode cc pc = .ok (.getfield ix, 3)) (k : V g L K own cc nL ret (wX g ad) inj z res σ (pc + 3) lv (.ref (aTape ad) :: st)) : V g L K own cc nL ret (wX g ad) inj z res σ pc lv (.ref (aMain ad) :: st) := v_get (q0 := 0) (C := RX4) (T := TX4) (N := 10) 5 rfl rfl inX4 (by decide) rfl rfl hl0 hd k
theorem gX4_reader (hl0 : Cond.fieldLink own ix RX4 "reader" "LLighthouseLiedTo$Reader;" ∈ tb) (hd : decode cc pc = .ok (.getfield ix, 3)) (k : V g L K own cc nL ret (wX g ad) inj z res σ (pc + 3) lv (.ref (aReader ad) :: st)) : V g L K own cc nL ret (wX g ad) inj z res σ pc lv (.ref (aMain ad) :: st) := v_get (q0 := 0) (C := RX4) (T := TX4) (N := 10) 6 rfl rfl inX4 (by decide) rfl rfl hl0 hd k
theorem gX4_textCount (hl0 : Cond.fieldLink own ix RX4 "textCount" "I" ∈ tb) (hd : decode cc pc = .ok (.getfield ix, 3)) (k : V g L K own cc nL ret (wX g ad) inj z res σ (pc + 3) lv (.int (xI σ 0) :: st)) : V g L K own cc nL ret (wX g ad) inj z res σ pc lv (.ref (aMain ad) :: st) := v_get (q0 := 0) (C := RX4) (T := TX4) (N := 10) 7 rfl rfl inX4 (by decide) rfl rfl hl0 hd k
theorem pX4_textCount {x : Int32} (hl0 : Cond.fieldLink own ix RX4 "textCount" "I" ∈ tb) (hd : decode cc pc = .ok (.putfield ix, 3)) (k : V g L K own cc nL ret (wX g ad) inj z res (sI σ 0 x) (pc + 3) lv st) : V g L K own cc nL ret (wX g ad) inj z res σ pc lv (.int x :: .ref (aMain ad) :: st) := v_put (q0 := 0) (C := RX4) (T := TX4) (N := 10) (ty := .int) 7 rfl rfl inX4 tyX4_ok nmX4 (by decide) rfl rfl (by decide +kernel) rfl rfl (Nat.le_of_ble_eq_true rfl) rfl hl0 hd k
theorem gX4_tapeSize (hl0 : Cond.fieldLink own ix RX4 "tapeSize" "I" ∈ tb) (hd : decode cc pc = .ok (.getfield ix, 3)) (k : V g L K own cc nL ret (wX g ad) inj z res σ (pc + 3) lv (.int (xI σ 1) :: st)) : V g L K own cc nL ret (wX g ad) inj z res σ pc lv (.ref (aMain ad) :: st) := v_get (q0 := 0) (C := RX4) (T := TX4) (N := 10) 8 rfl rfl inX4 (by decide) rfl rfl hl0 hd k
theorem pX4_tapeSize {x : Int32} (hl0 : Cond.fieldLink own ix RX4 "tapeSize" "I" ∈ tb) (hd : decode cc pc = .ok (.putfield ix, 3)) (k : V g L K own cc nL ret (wX g ad) inj z res (sI σ 1 x) (pc + 3) lv st) : V g L K own cc nL ret (wX g ad) inj z res σ pc lv (.int x :: .ref (aMain ad) :: st) := v_put (q0 := 0) (C := RX4) (T := TX4) (N := 10) (ty := .int) 8 rfl rfl inX4 tyX4_ok nmX4 (by decide) rfl rfl (by decide +kernel) rfl rfl (Nat.le_of_ble_eq_true rfl) rfl hl0 hd k
theorem gX4_hasImage (hl0 : Cond.fieldLink own ix RX4 "hasImage" "Z" ∈ tb) (hd : decode cc pc = .ok (.getfield ix, 3)) (k : V g L K own cc nL ret (wX g ad) inj z res σ (pc + 3) lv (.int (xI σ 2) :: st)) : V g L K own cc nL ret (wX g ad) inj z res σ pc lv (.ref (aMain ad) :: st) := v_get (q0 := 0) (C := RX4) (T := TX4) (N := 10) 9 rfl rfl inX4 (by decide) rfl rfl hl0 hd k
theorem pX4_hasImage {x : Int32} (hb : narrow .boolean (.int x) = .int x) (hf : fits .boolean (.int x) = true) (hl0 : Cond.fieldLink own ix RX4 "hasImage" "Z" ∈ tb) (hd : decode cc pc = .ok (.putfield ix, 3)) (k : V g L K own cc nL ret (wX g ad) inj z res (sI σ 2 x) (pc + 3) lv st) : V g L K own cc nL ret (wX g ad) inj z res σ pc lv (.int x :: .ref (aMain ad) :: st) := v_put (q0 := 0) (C := RX4) (T := TX4) (N := 10) (ty := .boolean) 9 rfl rfl inX4 tyX4_ok nmX4 (by decide) rfl rfl (by decide +kernel) hb hf (Nat.le_of_ble_eq_true rfl) rfl hl0 hd k
theorem pX1_tape (hl0 : Cond.fieldLink own ix RX1 "tape" "[I" ∈ tb) (hd : decode cc pc = .ok (.putfield ix, 3)) (k : V g L K own cc nL ret (wX g ad) inj z res (sY σ (some ())) (pc + 3) lv st) : V g L K own cc nL ret (wX g ad) inj z res σ pc lv (.ref (aTape ad) :: .ref (aReader ad) :: st) := v_put (q0 := 4) (C := RX1) (T := TX1) (N := 7) (ty := .array .int) 0 rfl rfl inX1 tyX1_ok nmX1 (by decide) rfl rfl (by decide +kernel) rfl rfl (Nat.le_of_ble_eq_true rfl) rfl hl0 hd k
theorem lX_tape {i : Int32} (hd : decode cc pc = .ok (.iaload, 1)) (k : V g L K own cc nL ret (wX g ad) inj z res σ (pc + 1) lv (.int (xP σ i.toNatClampNeg) :: st)) : V g L K own cc nL ret (wX g ad) inj z (grd i 160 res) σ pc lv (.int i :: .ref (aTape ad) :: st) := v_iald (q0 := 3) rfl hd k
theorem sX_tape {i x : Int32} (hd : decode cc pc = .ok (.iastore, 1)) (k : V g L K own cc nL ret (wX g ad) inj z res (sP σ i.toNatClampNeg x) (pc + 1) lv st) : V g L K own cc nL ret (wX g ad) inj z (grd i 160 res) σ pc lv (.int x :: .int i :: .ref (aTape ad) :: st) := v_iast (q0 := 3) rfl rfl hd k
theorem nX_tape {v : Int32} (hv : Int32.ofNat 160 = v) (hd : decode cc pc = .ok (.arraylength, 1)) (k : V g L K own cc nL ret (wX g ad) inj z res σ (pc + 1) lv (.int v :: st)) : V g L K own cc nL ret (wX g ad) inj z res σ pc lv (.ref (aTape ad) :: st) := v_alen (q0 := 3) (t0 := 0) rfl rfl hv hd k
theorem lX_law0 {t : Nat} (h0 : t < 6) {i : Int32} (hd : decode cc pc = .ok (.iaload, 1)) (k : V g L K own cc nL ret (wX g ad) inj z res σ (pc + 1) lv (.int (xU σ t 0 i.toNatClampNeg) :: st)) : V g L K own cc nL ret (wX g ad) inj z (grd i 160 res) σ pc lv (.int i :: .ref (aLawA ad t 0) :: st) := by
  match t, h0 with
  | 0, _ => exact v_iald (q0 := 6) rfl hd k
  | 1, _ => exact v_iald (q0 := 10) rfl hd k
  | 2, _ => exact v_iald (q0 := 14) rfl hd k
  | 3, _ => exact v_iald (q0 := 18) rfl hd k
  | 4, _ => exact v_iald (q0 := 22) rfl hd k
  | 5, _ => exact v_iald (q0 := 26) rfl hd k
theorem sX_law0 {t : Nat} (h0 : t < 6) {i x : Int32} (hd : decode cc pc = .ok (.iastore, 1)) (k : V g L K own cc nL ret (wX g ad) inj z res (sU σ t 0 i.toNatClampNeg x) (pc + 1) lv st) : V g L K own cc nL ret (wX g ad) inj z (grd i 160 res) σ pc lv (.int x :: .int i :: .ref (aLawA ad t 0) :: st) := by
  match t, h0 with
  | 0, _ => exact v_iast (q0 := 6) rfl rfl hd k
  | 1, _ => exact v_iast (q0 := 10) rfl rfl hd k
  | 2, _ => exact v_iast (q0 := 14) rfl rfl hd k
  | 3, _ => exact v_iast (q0 := 18) rfl rfl hd k
  | 4, _ => exact v_iast (q0 := 22) rfl rfl hd k
  | 5, _ => exact v_iast (q0 := 26) rfl rfl hd k
theorem nX_law0 {t : Nat} (h0 : t < 6) {v : Int32} (hv : Int32.ofNat 160 = v) (hd : decode cc pc = .ok (.arraylength, 1)) (k : V g L K own cc nL ret (wX g ad) inj z res σ (pc + 1) lv (.int v :: st)) : V g L K own cc nL ret (wX g ad) inj z res σ pc lv (.ref (aLawA ad t 0) :: st) := by
  match t, h0 with
  | 0, _ => exact v_alen (q0 := 6) (t0 := 0) rfl rfl hv hd k
  | 1, _ => exact v_alen (q0 := 10) (t0 := 0) rfl rfl hv hd k
  | 2, _ => exact v_alen (q0 := 14) (t0 := 0) rfl rfl hv hd k
  | 3, _ => exact v_alen (q0 := 18) (t0 := 0) rfl rfl hv hd k
  | 4, _ => exact v_alen (q0 := 22) (t0 := 0) rfl rfl hv hd k
  | 5, _ => exact v_alen (q0 := 26) (t0 := 0) rfl rfl hv hd k
theorem lX_law1 {t : Nat} (h0 : t < 6) {i : Int32} (hd : decode cc pc = .ok (.iaload, 1)) (k : V g L K own cc nL ret (wX g ad) inj z res σ (pc + 1) lv (.int (xU σ t 1 i.toNatClampNeg) :: st)) : V g L K own cc nL ret (wX g ad) inj z (grd i 160 res) σ pc lv (.int i :: .ref (aLawA ad t 1) :: st) := by
  match t, h0 with
  | 0, _ => exact v_iald (q0 := 7) rfl hd k
  | 1, _ => exact v_iald (q0 := 11) rfl hd k
  | 2, _ => exact v_iald (q0 := 15) rfl hd k
  | 3, _ => exact v_iald (q0 := 19) rfl hd k
  | 4, _ => exact v_iald (q0 := 23) rfl hd k
  | 5, _ => exact v_iald (q0 := 27) rfl hd k
theorem sX_law1 {t : Nat} (h0 : t < 6) {i x : Int32} (hd : decode cc pc = .ok (.iastore, 1)) (k : V g L K own cc nL ret (wX g ad) inj z res (sU σ t 1 i.toNatClampNeg x) (pc + 1) lv st) : V g L K own cc nL ret (wX g ad) inj z (grd i 160 res) σ pc lv (.int x :: .int i :: .ref (aLawA ad t 1) :: st) := by
  match t, h0 with
  | 0, _ => exact v_iast (q0 := 7) rfl rfl hd k
  | 1, _ => exact v_iast (q0 := 11) rfl rfl hd k
  | 2, _ => exact v_iast (q0 := 15) rfl rfl hd k
  | 3, _ => exact v_iast (q0 := 19) rfl rfl hd k
  | 4, _ => exact v_iast (q0 := 23) rfl rfl hd k
  | 5, _ => exact v_iast (q0 := 27) rfl rfl hd k
theorem nX_law1 {t : Nat} (h0 : t < 6) {v : Int32} (hv : Int32.ofNat 160 = v) (hd : decode cc pc = .ok (.arraylength, 1)) (k : V g L K own cc nL ret (wX g ad) inj z res σ (pc + 1) lv (.int v :: st)) : V g L K own cc nL ret (wX g ad) inj z res σ pc lv (.ref (aLawA ad t 1) :: st) := by
  match t, h0 with
  | 0, _ => exact v_alen (q0 := 7) (t0 := 0) rfl rfl hv hd k
  | 1, _ => exact v_alen (q0 := 11) (t0 := 0) rfl rfl hv hd k
  | 2, _ => exact v_alen (q0 := 15) (t0 := 0) rfl rfl hv hd k
  | 3, _ => exact v_alen (q0 := 19) (t0 := 0) rfl rfl hv hd k
  | 4, _ => exact v_alen (q0 := 23) (t0 := 0) rfl rfl hv hd k
  | 5, _ => exact v_alen (q0 := 27) (t0 := 0) rfl rfl hv hd k
theorem lX_law2 {t : Nat} (h0 : t < 6) {i : Int32} (hd : decode cc pc = .ok (.iaload, 1)) (k : V g L K own cc nL ret (wX g ad) inj z res σ (pc + 1) lv (.int (xU σ t 2 i.toNatClampNeg) :: st)) : V g L K own cc nL ret (wX g ad) inj z (grd i 3 res) σ pc lv (.int i :: .ref (aLawA ad t 2) :: st) := by
  match t, h0 with
  | 0, _ => exact v_iald (q0 := 8) rfl hd k
  | 1, _ => exact v_iald (q0 := 12) rfl hd k
  | 2, _ => exact v_iald (q0 := 16) rfl hd k
  | 3, _ => exact v_iald (q0 := 20) rfl hd k
  | 4, _ => exact v_iald (q0 := 24) rfl hd k
  | 5, _ => exact v_iald (q0 := 28) rfl hd k
theorem sX_law2 {t : Nat} (h0 : t < 6) {i x : Int32} (hd : decode cc pc = .ok (.iastore, 1)) (k : V g L K own cc nL ret (wX g ad) inj z res (sU σ t 2 i.toNatClampNeg x) (pc + 1) lv st) : V g L K own cc nL ret (wX g ad) inj z (grd i 3 res) σ pc lv (.int x :: .int i :: .ref (aLawA ad t 2) :: st) := by
  match t, h0 with
  | 0, _ => exact v_iast (q0 := 8) rfl rfl hd k
  | 1, _ => exact v_iast (q0 := 12) rfl rfl hd k
  | 2, _ => exact v_iast (q0 := 16) rfl rfl hd k
  | 3, _ => exact v_iast (q0 := 20) rfl rfl hd k
  | 4, _ => exact v_iast (q0 := 24) rfl rfl hd k
  | 5, _ => exact v_iast (q0 := 28) rfl rfl hd k
theorem nX_law2 {t : Nat} (h0 : t < 6) {v : Int32} (hv : Int32.ofNat 3 = v) (hd : decode cc pc = .ok (.arraylength, 1)) (k : V g L K own cc nL ret (wX g ad) inj z res σ (pc + 1) lv (.int v :: st)) : V g L K own cc nL ret (wX g ad) inj z res σ pc lv (.ref (aLawA ad t 2) :: st) := by
  match t, h0 with
  | 0, _ => exact v_alen (q0 := 8) (t0 := 0) rfl rfl hv hd k
  | 1, _ => exact v_alen (q0 := 12) (t0 := 0) rfl rfl hv hd k
  | 2, _ => exact v_alen (q0 := 16) (t0 := 0) rfl rfl hv hd k
  | 3, _ => exact v_alen (q0 := 20) (t0 := 0) rfl rfl hv hd k
  | 4, _ => exact v_alen (q0 := 24) (t0 := 0) rfl rfl hv hd k
  | 5, _ => exact v_alen (q0 := 28) (t0 := 0) rfl rfl hv hd k
theorem lX_sea0 {y : Nat} (h0 : y < 3) {i : Int32} (hd : decode cc pc = .ok (.iaload, 1)) (k : V g L K own cc nL ret (wX g ad) inj z res σ (pc + 1) lv (.int (xB σ y 0 i.toNatClampNeg) :: st)) : V g L K own cc nL ret (wX g ad) inj z (grd i 36 res) σ pc lv (.int i :: .ref (aSeaA ad y 0) :: st) := by
  match y, h0 with
  | 0, _ => exact v_iald (q0 := 30) rfl hd k
  | 1, _ => exact v_iald (q0 := 36) rfl hd k
  | 2, _ => exact v_iald (q0 := 42) rfl hd k
theorem sX_sea0 {y : Nat} (h0 : y < 3) {i x : Int32} (hd : decode cc pc = .ok (.iastore, 1)) (k : V g L K own cc nL ret (wX g ad) inj z res (sB σ y 0 i.toNatClampNeg x) (pc + 1) lv st) : V g L K own cc nL ret (wX g ad) inj z (grd i 36 res) σ pc lv (.int x :: .int i :: .ref (aSeaA ad y 0) :: st) := by
  match y, h0 with
  | 0, _ => exact v_iast (q0 := 30) rfl rfl hd k
  | 1, _ => exact v_iast (q0 := 36) rfl rfl hd k
  | 2, _ => exact v_iast (q0 := 42) rfl rfl hd k
theorem nX_sea0 {y : Nat} (h0 : y < 3) {v : Int32} (hv : Int32.ofNat 36 = v) (hd : decode cc pc = .ok (.arraylength, 1)) (k : V g L K own cc nL ret (wX g ad) inj z res σ (pc + 1) lv (.int v :: st)) : V g L K own cc nL ret (wX g ad) inj z res σ pc lv (.ref (aSeaA ad y 0) :: st) := by
  match y, h0 with
  | 0, _ => exact v_alen (q0 := 30) (t0 := 0) rfl rfl hv hd k
  | 1, _ => exact v_alen (q0 := 36) (t0 := 0) rfl rfl hv hd k
  | 2, _ => exact v_alen (q0 := 42) (t0 := 0) rfl rfl hv hd k
theorem lX_sea1 {y : Nat} (h0 : y < 3) {i : Int32} (hd : decode cc pc = .ok (.iaload, 1)) (k : V g L K own cc nL ret (wX g ad) inj z res σ (pc + 1) lv (.int (xB σ y 1 i.toNatClampNeg) :: st)) : V g L K own cc nL ret (wX g ad) inj z (grd i 6 res) σ pc lv (.int i :: .ref (aSeaA ad y 1) :: st) := by
  match y, h0 with
  | 0, _ => exact v_iald (q0 := 31) rfl hd k
  | 1, _ => exact v_iald (q0 := 37) rfl hd k
  | 2, _ => exact v_iald (q0 := 43) rfl hd k
theorem sX_sea1 {y : Nat} (h0 : y < 3) {i x : Int32} (hd : decode cc pc = .ok (.iastore, 1)) (k : V g L K own cc nL ret (wX g ad) inj z res (sB σ y 1 i.toNatClampNeg x) (pc + 1) lv st) : V g L K own cc nL ret (wX g ad) inj z (grd i 6 res) σ pc lv (.int x :: .int i :: .ref (aSeaA ad y 1) :: st) := by
  match y, h0 with
  | 0, _ => exact v_iast (q0 := 31) rfl rfl hd k
  | 1, _ => exact v_iast (q0 := 37) rfl rfl hd k
  | 2, _ => exact v_iast (q0 := 43) rfl rfl hd k
theorem nX_sea1 {y : Nat} (h0 : y < 3) {v : Int32} (hv : Int32.ofNat 6 = v) (hd : decode cc pc = .ok (.arraylength, 1)) (k : V g L K own cc nL ret (wX g ad) inj z res σ (pc + 1) lv (.int v :: st)) : V g L K own cc nL ret (wX g ad) inj z res σ pc lv (.ref (aSeaA ad y 1) :: st) := by
  match y, h0 with
  | 0, _ => exact v_alen (q0 := 31) (t0 := 0) rfl rfl hv hd k
  | 1, _ => exact v_alen (q0 := 37) (t0 := 0) rfl rfl hv hd k
  | 2, _ => exact v_alen (q0 := 43) (t0 := 0) rfl rfl hv hd k
theorem lX_sea2 {y : Nat} (h0 : y < 3) {i : Int32} (hd : decode cc pc = .ok (.iaload, 1)) (k : V g L K own cc nL ret (wX g ad) inj z res σ (pc + 1) lv (.int (xB σ y 2 i.toNatClampNeg) :: st)) : V g L K own cc nL ret (wX g ad) inj z (grd i 6 res) σ pc lv (.int i :: .ref (aSeaA ad y 2) :: st) := by
  match y, h0 with
  | 0, _ => exact v_iald (q0 := 32) rfl hd k
  | 1, _ => exact v_iald (q0 := 38) rfl hd k
  | 2, _ => exact v_iald (q0 := 44) rfl hd k
theorem sX_sea2 {y : Nat} (h0 : y < 3) {i x : Int32} (hd : decode cc pc = .ok (.iastore, 1)) (k : V g L K own cc nL ret (wX g ad) inj z res (sB σ y 2 i.toNatClampNeg x) (pc + 1) lv st) : V g L K own cc nL ret (wX g ad) inj z (grd i 6 res) σ pc lv (.int x :: .int i :: .ref (aSeaA ad y 2) :: st) := by
  match y, h0 with
  | 0, _ => exact v_iast (q0 := 32) rfl rfl hd k
  | 1, _ => exact v_iast (q0 := 38) rfl rfl hd k
  | 2, _ => exact v_iast (q0 := 44) rfl rfl hd k
theorem nX_sea2 {y : Nat} (h0 : y < 3) {v : Int32} (hv : Int32.ofNat 6 = v) (hd : decode cc pc = .ok (.arraylength, 1)) (k : V g L K own cc nL ret (wX g ad) inj z res σ (pc + 1) lv (.int v :: st)) : V g L K own cc nL ret (wX g ad) inj z res σ pc lv (.ref (aSeaA ad y 2) :: st) := by
  match y, h0 with
  | 0, _ => exact v_alen (q0 := 32) (t0 := 0) rfl rfl hv hd k
  | 1, _ => exact v_alen (q0 := 38) (t0 := 0) rfl rfl hv hd k
  | 2, _ => exact v_alen (q0 := 44) (t0 := 0) rfl rfl hv hd k
theorem lX_sea3 {y : Nat} (h0 : y < 3) {i : Int32} (hd : decode cc pc = .ok (.iaload, 1)) (k : V g L K own cc nL ret (wX g ad) inj z res σ (pc + 1) lv (.int (xB σ y 3 i.toNatClampNeg) :: st)) : V g L K own cc nL ret (wX g ad) inj z (grd i 6 res) σ pc lv (.int i :: .ref (aSeaA ad y 3) :: st) := by
  match y, h0 with
  | 0, _ => exact v_iald (q0 := 33) rfl hd k
  | 1, _ => exact v_iald (q0 := 39) rfl hd k
  | 2, _ => exact v_iald (q0 := 45) rfl hd k
theorem sX_sea3 {y : Nat} (h0 : y < 3) {i x : Int32} (hd : decode cc pc = .ok (.iastore, 1)) (k : V g L K own cc nL ret (wX g ad) inj z res (sB σ y 3 i.toNatClampNeg x) (pc + 1) lv st) : V g L K own cc nL ret (wX g ad) inj z (grd i 6 res) σ pc lv (.int x :: .int i :: .ref (aSeaA ad y 3) :: st) := by
  match y, h0 with
  | 0, _ => exact v_iast (q0 := 33) rfl rfl hd k
  | 1, _ => exact v_iast (q0 := 39) rfl rfl hd k
  | 2, _ => exact v_iast (q0 := 45) rfl rfl hd k
theorem nX_sea3 {y : Nat} (h0 : y < 3) {v : Int32} (hv : Int32.ofNat 6 = v) (hd : decode cc pc = .ok (.arraylength, 1)) (k : V g L K own cc nL ret (wX g ad) inj z res σ (pc + 1) lv (.int v :: st)) : V g L K own cc nL ret (wX g ad) inj z res σ pc lv (.ref (aSeaA ad y 3) :: st) := by
  match y, h0 with
  | 0, _ => exact v_alen (q0 := 33) (t0 := 0) rfl rfl hv hd k
  | 1, _ => exact v_alen (q0 := 39) (t0 := 0) rfl rfl hv hd k
  | 2, _ => exact v_alen (q0 := 45) (t0 := 0) rfl rfl hv hd k
theorem lX_sea4 {y : Nat} (h0 : y < 3) {i : Int32} (hd : decode cc pc = .ok (.iaload, 1)) (k : V g L K own cc nL ret (wX g ad) inj z res σ (pc + 1) lv (.int (xB σ y 4 i.toNatClampNeg) :: st)) : V g L K own cc nL ret (wX g ad) inj z (grd i 6 res) σ pc lv (.int i :: .ref (aSeaA ad y 4) :: st) := by
  match y, h0 with
  | 0, _ => exact v_iald (q0 := 34) rfl hd k
  | 1, _ => exact v_iald (q0 := 40) rfl hd k
  | 2, _ => exact v_iald (q0 := 46) rfl hd k
theorem sX_sea4 {y : Nat} (h0 : y < 3) {i x : Int32} (hd : decode cc pc = .ok (.iastore, 1)) (k : V g L K own cc nL ret (wX g ad) inj z res (sB σ y 4 i.toNatClampNeg x) (pc + 1) lv st) : V g L K own cc nL ret (wX g ad) inj z (grd i 6 res) σ pc lv (.int x :: .int i :: .ref (aSeaA ad y 4) :: st) := by
  match y, h0 with
  | 0, _ => exact v_iast (q0 := 34) rfl rfl hd k
  | 1, _ => exact v_iast (q0 := 40) rfl rfl hd k
  | 2, _ => exact v_iast (q0 := 46) rfl rfl hd k
theorem nX_sea4 {y : Nat} (h0 : y < 3) {v : Int32} (hv : Int32.ofNat 6 = v) (hd : decode cc pc = .ok (.arraylength, 1)) (k : V g L K own cc nL ret (wX g ad) inj z res σ (pc + 1) lv (.int v :: st)) : V g L K own cc nL ret (wX g ad) inj z res σ pc lv (.ref (aSeaA ad y 4) :: st) := by
  match y, h0 with
  | 0, _ => exact v_alen (q0 := 34) (t0 := 0) rfl rfl hv hd k
  | 1, _ => exact v_alen (q0 := 40) (t0 := 0) rfl rfl hv hd k
  | 2, _ => exact v_alen (q0 := 46) (t0 := 0) rfl rfl hv hd k
theorem lX_nums {q : Nat} (h0 : q < 4) {i : Int32} (hd : decode cc pc = .ok (.iaload, 1)) (k : V g L K own cc nL ret (wX g ad) inj z res σ (pc + 1) lv (.int (xN σ q i.toNatClampNeg) :: st)) : V g L K own cc nL ret (wX g ad) inj z (grd i 40 res) σ pc lv (.int i :: .ref (aNums ad q) :: st) := by
  match q, h0 with
  | 0, _ => exact v_iald (q0 := 48) rfl hd k
  | 1, _ => exact v_iald (q0 := 50) rfl hd k
  | 2, _ => exact v_iald (q0 := 52) rfl hd k
  | 3, _ => exact v_iald (q0 := 54) rfl hd k
theorem sX_nums {q : Nat} (h0 : q < 4) {i x : Int32} (hd : decode cc pc = .ok (.iastore, 1)) (k : V g L K own cc nL ret (wX g ad) inj z res (sN σ q i.toNatClampNeg x) (pc + 1) lv st) : V g L K own cc nL ret (wX g ad) inj z (grd i 40 res) σ pc lv (.int x :: .int i :: .ref (aNums ad q) :: st) := by
  match q, h0 with
  | 0, _ => exact v_iast (q0 := 48) rfl rfl hd k
  | 1, _ => exact v_iast (q0 := 50) rfl rfl hd k
  | 2, _ => exact v_iast (q0 := 52) rfl rfl hd k
  | 3, _ => exact v_iast (q0 := 54) rfl rfl hd k
theorem nX_nums {q : Nat} (h0 : q < 4) {v : Int32} (hv : Int32.ofNat 40 = v) (hd : decode cc pc = .ok (.arraylength, 1)) (k : V g L K own cc nL ret (wX g ad) inj z res σ (pc + 1) lv (.int v :: st)) : V g L K own cc nL ret (wX g ad) inj z res σ pc lv (.ref (aNums ad q) :: st) := by
  match q, h0 with
  | 0, _ => exact v_alen (q0 := 48) (t0 := 0) rfl rfl hv hd k
  | 1, _ => exact v_alen (q0 := 50) (t0 := 0) rfl rfl hv hd k
  | 2, _ => exact v_alen (q0 := 52) (t0 := 0) rfl rfl hv hd k
  | 3, _ => exact v_alen (q0 := 54) (t0 := 0) rfl rfl hv hd k
theorem nX_texts {v : Int32} (hv : Int32.ofNat 6 = v) (hd : decode cc pc = .ok (.arraylength, 1)) (k : V g L K own cc nL ret (wX g ad) inj z res σ (pc + 1) lv (.int v :: st)) : V g L K own cc nL ret (wX g ad) inj z res σ pc lv (.ref (aTexts ad) :: st) := v_alen (q0 := 1) (t0 := 1) rfl rfl hv hd k
theorem aX_texts {i : Int32} (hd : decode cc pc = .ok (.aaload, 1)) (k : i.toNatClampNeg < 6 → V g L K own cc nL ret (wX g ad) inj z res σ (pc + 1) lv (.ref (aLaw ad i.toNatClampNeg) :: st)) : V g L K own cc nL ret (wX g ad) inj z (grd i 6 res) σ pc lv (.int i :: .ref (aTexts ad) :: st) := v_aald (q0 := 1) (t0 := 1) rfl rfl hd k
theorem aX_sheets {i : Int32} (hd : decode cc pc = .ok (.aaload, 1)) (k : i.toNatClampNeg < 4 → V g L K own cc nL ret (wX g ad) inj z res σ (pc + 1) lv (.ref (aSheet ad i.toNatClampNeg) :: st)) : V g L K own cc nL ret (wX g ad) inj z (grd i 4 res) σ pc lv (.int i :: .ref (aSheets ad) :: st) := v_aald (q0 := 2) (t0 := 2) rfl rfl hd k
theorem rcX0 {t : Nat} (h0 : t < 6) : RC (wX g ad) σ (aLaw ad t) RX0 := by
  match t, h0 with
  | 0, _ => exact ⟨5, 0, _, _, rfl, rfl, rfl⟩
  | 1, _ => exact ⟨9, 0, _, _, rfl, rfl, rfl⟩
  | 2, _ => exact ⟨13, 0, _, _, rfl, rfl, rfl⟩
  | 3, _ => exact ⟨17, 0, _, _, rfl, rfl, rfl⟩
  | 4, _ => exact ⟨21, 0, _, _, rfl, rfl, rfl⟩
  | 5, _ => exact ⟨25, 0, _, _, rfl, rfl, rfl⟩
theorem rcX1 : RC (wX g ad) σ (aReader ad) RX1 := ⟨4, 1, _, _, rfl, rfl, rfl⟩
theorem rcX2 {y : Nat} (h0 : y < 3) : RC (wX g ad) σ (aSea ad y) RX2 := by
  match y, h0 with
  | 0, _ => exact ⟨29, 2, _, _, rfl, rfl, rfl⟩
  | 1, _ => exact ⟨35, 2, _, _, rfl, rfl, rfl⟩
  | 2, _ => exact ⟨41, 2, _, _, rfl, rfl, rfl⟩
theorem rcX3 {q : Nat} (h0 : q < 4) : RC (wX g ad) σ (aSheet ad q) RX3 := by
  match q, h0 with
  | 0, _ => exact ⟨47, 3, _, _, rfl, rfl, rfl⟩
  | 1, _ => exact ⟨49, 3, _, _, rfl, rfl, rfl⟩
  | 2, _ => exact ⟨51, 3, _, _, rfl, rfl, rfl⟩
  | 3, _ => exact ⟨53, 3, _, _, rfl, rfl, rfl⟩
theorem rcX4 : RC (wX g ad) σ (aMain ad) RX4 := ⟨0, 4, _, _, rfl, rfl, rfl⟩
end WROWS
section WROWSM
variable {ρ : Type} {g : Gt} {ad : Nat → Nat} {L : List Nat} {K : Nat} {own : String} {cc : ByteArray} {nL : Nat} {ret : Option FieldType} {inj : ρ → Option Value} {z : Zt} {res : Option (ρ × GM)} {σ : GM} {pc ix : Nat} {lv : List (Nat × Value)} {st : List Value}
theorem in_r {ws : List Cond} (ps : List Nat) (hp : ws = ps.filterMap (fun i => lw_tbl[i]?)) (hg : ws.all goodWord = true) : ∀ w ∈ ws, w ∈ tb := by
  intro w hw
  have h1 := List.all_eq_true.mp hg w hw
  rw [hp] at hw
  obtain ⟨i, -, hi⟩ := List.mem_filterMap.mp hw
  exact tb_mem i hi h1
theorem inX5 : ∀ w ∈ u_ws RX5 TX5 37, w ∈ tb := in_r [791, 793, 795, 797, 799, 801, 803, 805, 807, 809, 811, 813, 815, 817, 819, 821, 823, 825, 827, 829, 831, 833, 835, 837, 839, 841, 843, 845, 847, 849, 851, 853, 855, 857, 859, 861, 863] (by decide +kernel) (by decide +kernel)
theorem gX5_ships (hl0 : Cond.fieldLink own ix RX5 "ships" "I" ∈ tb) (hd : decode cc pc = .ok (.getfield ix, 3)) (k : V g L K own cc nL ret (wM g ad) inj z res σ (pc + 3) lv (.int (mI σ 0) :: st)) : V g L K own cc nL ret (wM g ad) inj z res σ pc lv (.ref (aMo ad) :: st) := v_get (q0 := 0) (C := RX5) (T := TX5) (N := 37) 0 rfl rfl inX5 (by decide) rfl rfl hl0 hd k
theorem pX5_ships {x : Int32} (hl0 : Cond.fieldLink own ix RX5 "ships" "I" ∈ tb) (hd : decode cc pc = .ok (.putfield ix, 3)) (k : V g L K own cc nL ret (wM g ad) inj z res (tI σ 0 x) (pc + 3) lv st) : V g L K own cc nL ret (wM g ad) inj z res σ pc lv (.int x :: .ref (aMo ad) :: st) := v_put (q0 := 0) (C := RX5) (T := TX5) (N := 37) (ty := .int) 0 rfl rfl inX5 tyX5_ok nmX5 (by decide) rfl rfl (by decide +kernel) rfl rfl (Nat.le_of_ble_eq_true rfl) rfl hl0 hd k
theorem gX5_kind (hl0 : Cond.fieldLink own ix RX5 "kind" "[I" ∈ tb) (hd : decode cc pc = .ok (.getfield ix, 3)) (k : V g L K own cc nL ret (wM g ad) inj z res σ (pc + 3) lv (.ref (aMoA ad 0) :: st)) : V g L K own cc nL ret (wM g ad) inj z res σ pc lv (.ref (aMo ad) :: st) := v_get (q0 := 0) (C := RX5) (T := TX5) (N := 37) 1 rfl rfl inX5 (by decide) rfl rfl hl0 hd k
theorem gX5_moreOf (hl0 : Cond.fieldLink own ix RX5 "moreOf" "[I" ∈ tb) (hd : decode cc pc = .ok (.getfield ix, 3)) (k : V g L K own cc nL ret (wM g ad) inj z res σ (pc + 3) lv (.ref (aMoA ad 1) :: st)) : V g L K own cc nL ret (wM g ad) inj z res σ pc lv (.ref (aMo ad) :: st) := v_get (q0 := 0) (C := RX5) (T := TX5) (N := 37) 2 rfl rfl inX5 (by decide) rfl rfl hl0 hd k
theorem gX5_onOf (hl0 : Cond.fieldLink own ix RX5 "onOf" "[I" ∈ tb) (hd : decode cc pc = .ok (.getfield ix, 3)) (k : V g L K own cc nL ret (wM g ad) inj z res σ (pc + 3) lv (.ref (aMoA ad 2) :: st)) : V g L K own cc nL ret (wM g ad) inj z res σ pc lv (.ref (aMo ad) :: st) := v_get (q0 := 0) (C := RX5) (T := TX5) (N := 37) 3 rfl rfl inX5 (by decide) rfl rfl hl0 hd k
theorem gX5_draughtOf (hl0 : Cond.fieldLink own ix RX5 "draughtOf" "[I" ∈ tb) (hd : decode cc pc = .ok (.getfield ix, 3)) (k : V g L K own cc nL ret (wM g ad) inj z res σ (pc + 3) lv (.ref (aMoA ad 3) :: st)) : V g L K own cc nL ret (wM g ad) inj z res σ pc lv (.ref (aMo ad) :: st) := v_get (q0 := 0) (C := RX5) (T := TX5) (N := 37) 4 rfl rfl inX5 (by decide) rfl rfl hl0 hd k
theorem gX5_lost (hl0 : Cond.fieldLink own ix RX5 "lost" "[I" ∈ tb) (hd : decode cc pc = .ok (.getfield ix, 3)) (k : V g L K own cc nL ret (wM g ad) inj z res σ (pc + 3) lv (.ref (aMoA ad 4) :: st)) : V g L K own cc nL ret (wM g ad) inj z res σ pc lv (.ref (aMo ad) :: st) := v_get (q0 := 0) (C := RX5) (T := TX5) (N := 37) 5 rfl rfl inX5 (by decide) rfl rfl hl0 hd k
theorem gX5_beliefs (hl0 : Cond.fieldLink own ix RX5 "beliefs" "[I" ∈ tb) (hd : decode cc pc = .ok (.getfield ix, 3)) (k : V g L K own cc nL ret (wM g ad) inj z res σ (pc + 3) lv (.ref (aMoA ad 5) :: st)) : V g L K own cc nL ret (wM g ad) inj z res σ pc lv (.ref (aMo ad) :: st) := v_get (q0 := 0) (C := RX5) (T := TX5) (N := 37) 6 rfl rfl inX5 (by decide) rfl rfl hl0 hd k
theorem gX5_rocks (hl0 : Cond.fieldLink own ix RX5 "rocks" "J" ∈ tb) (hd : decode cc pc = .ok (.getfield ix, 3)) (k : V g L K own cc nL ret (wM g ad) inj z res σ (pc + 3) lv (.long (mL σ 0) :: st)) : V g L K own cc nL ret (wM g ad) inj z res σ pc lv (.ref (aMo ad) :: st) := v_get (q0 := 0) (C := RX5) (T := TX5) (N := 37) 7 rfl rfl inX5 (by decide) rfl rfl hl0 hd k
theorem pX5_rocks {x : Int64} (hl0 : Cond.fieldLink own ix RX5 "rocks" "J" ∈ tb) (hd : decode cc pc = .ok (.putfield ix, 3)) (k : V g L K own cc nL ret (wM g ad) inj z res (tL σ 0 x) (pc + 3) lv st) : V g L K own cc nL ret (wM g ad) inj z res σ pc lv (.long x :: .ref (aMo ad) :: st) := v_put (q0 := 0) (C := RX5) (T := TX5) (N := 37) (ty := .long) 7 rfl rfl inX5 tyX5_ok nmX5 (by decide) rfl rfl (by decide +kernel) rfl rfl (Nat.le_of_ble_eq_true rfl) rfl hl0 hd k
theorem gX5_nights (hl0 : Cond.fieldLink own ix RX5 "nights" "I" ∈ tb) (hd : decode cc pc = .ok (.getfield ix, 3)) (k : V g L K own cc nL ret (wM g ad) inj z res σ (pc + 3) lv (.int (mI σ 1) :: st)) : V g L K own cc nL ret (wM g ad) inj z res σ pc lv (.ref (aMo ad) :: st) := v_get (q0 := 0) (C := RX5) (T := TX5) (N := 37) 8 rfl rfl inX5 (by decide) rfl rfl hl0 hd k
theorem pX5_nights {x : Int32} (hl0 : Cond.fieldLink own ix RX5 "nights" "I" ∈ tb) (hd : decode cc pc = .ok (.putfield ix, 3)) (k : V g L K own cc nL ret (wM g ad) inj z res (tI σ 1 x) (pc + 3) lv st) : V g L K own cc nL ret (wM g ad) inj z res σ pc lv (.int x :: .ref (aMo ad) :: st) := v_put (q0 := 0) (C := RX5) (T := TX5) (N := 37) (ty := .int) 8 rfl rfl inX5 tyX5_ok nmX5 (by decide) rfl rfl (by decide +kernel) rfl rfl (Nat.le_of_ble_eq_true rfl) rfl hl0 hd k
theorem gX5_doubt (hl0 : Cond.fieldLink own ix RX5 "doubt" "I" ∈ tb) (hd : decode cc pc = .ok (.getfield ix, 3)) (k : V g L K own cc nL ret (wM g ad) inj z res σ (pc + 3) lv (.int (mI σ 2) :: st)) : V g L K own cc nL ret (wM g ad) inj z res σ pc lv (.ref (aMo ad) :: st) := v_get (q0 := 0) (C := RX5) (T := TX5) (N := 37) 9 rfl rfl inX5 (by decide) rfl rfl hl0 hd k
theorem pX5_doubt {x : Int32} (hl0 : Cond.fieldLink own ix RX5 "doubt" "I" ∈ tb) (hd : decode cc pc = .ok (.putfield ix, 3)) (k : V g L K own cc nL ret (wM g ad) inj z res (tI σ 2 x) (pc + 3) lv st) : V g L K own cc nL ret (wM g ad) inj z res σ pc lv (.int x :: .ref (aMo ad) :: st) := v_put (q0 := 0) (C := RX5) (T := TX5) (N := 37) (ty := .int) 9 rfl rfl inX5 tyX5_ok nmX5 (by decide) rfl rfl (by decide +kernel) rfl rfl (Nat.le_of_ble_eq_true rfl) rfl hl0 hd k
theorem gX5_tape (hl0 : Cond.fieldLink own ix RX5 "tape" "[I" ∈ tb) (hd : decode cc pc = .ok (.getfield ix, 3)) (k : V g L K own cc nL ret (wM g ad) inj z res σ (pc + 3) lv (.ref (aMoA ad 6) :: st)) : V g L K own cc nL ret (wM g ad) inj z res σ pc lv (.ref (aMo ad) :: st) := v_get (q0 := 0) (C := RX5) (T := TX5) (N := 37) 10 rfl rfl inX5 (by decide) rfl rfl hl0 hd k
theorem gX5_taped (hl0 : Cond.fieldLink own ix RX5 "taped" "I" ∈ tb) (hd : decode cc pc = .ok (.getfield ix, 3)) (k : V g L K own cc nL ret (wM g ad) inj z res σ (pc + 3) lv (.int (mI σ 3) :: st)) : V g L K own cc nL ret (wM g ad) inj z res σ pc lv (.ref (aMo ad) :: st) := v_get (q0 := 0) (C := RX5) (T := TX5) (N := 37) 11 rfl rfl inX5 (by decide) rfl rfl hl0 hd k
theorem pX5_taped {x : Int32} (hl0 : Cond.fieldLink own ix RX5 "taped" "I" ∈ tb) (hd : decode cc pc = .ok (.putfield ix, 3)) (k : V g L K own cc nL ret (wM g ad) inj z res (tI σ 3 x) (pc + 3) lv st) : V g L K own cc nL ret (wM g ad) inj z res σ pc lv (.int x :: .ref (aMo ad) :: st) := v_put (q0 := 0) (C := RX5) (T := TX5) (N := 37) (ty := .int) 11 rfl rfl inX5 tyX5_ok nmX5 (by decide) rfl rfl (by decide +kernel) rfl rfl (Nat.le_of_ble_eq_true rfl) rfl hl0 hd k
theorem gX5_codes (hl0 : Cond.fieldLink own ix RX5 "codes" "[I" ∈ tb) (hd : decode cc pc = .ok (.getfield ix, 3)) (k : V g L K own cc nL ret (wM g ad) inj z res σ (pc + 3) lv (.ref (aMoA ad 7) :: st)) : V g L K own cc nL ret (wM g ad) inj z res σ pc lv (.ref (aMo ad) :: st) := v_get (q0 := 0) (C := RX5) (T := TX5) (N := 37) 12 rfl rfl inX5 (by decide) rfl rfl hl0 hd k
theorem gX5_starts (hl0 : Cond.fieldLink own ix RX5 "starts" "[I" ∈ tb) (hd : decode cc pc = .ok (.getfield ix, 3)) (k : V g L K own cc nL ret (wM g ad) inj z res σ (pc + 3) lv (.ref (aMoA ad 8) :: st)) : V g L K own cc nL ret (wM g ad) inj z res σ pc lv (.ref (aMo ad) :: st) := v_get (q0 := 0) (C := RX5) (T := TX5) (N := 37) 13 rfl rfl inX5 (by decide) rfl rfl hl0 hd k
theorem gX5_texts (hl0 : Cond.fieldLink own ix RX5 "texts" "I" ∈ tb) (hd : decode cc pc = .ok (.getfield ix, 3)) (k : V g L K own cc nL ret (wM g ad) inj z res σ (pc + 3) lv (.int (mI σ 4) :: st)) : V g L K own cc nL ret (wM g ad) inj z res σ pc lv (.ref (aMo ad) :: st) := v_get (q0 := 0) (C := RX5) (T := TX5) (N := 37) 14 rfl rfl inX5 (by decide) rfl rfl hl0 hd k
theorem pX5_texts {x : Int32} (hl0 : Cond.fieldLink own ix RX5 "texts" "I" ∈ tb) (hd : decode cc pc = .ok (.putfield ix, 3)) (k : V g L K own cc nL ret (wM g ad) inj z res (tI σ 4 x) (pc + 3) lv st) : V g L K own cc nL ret (wM g ad) inj z res σ pc lv (.int x :: .ref (aMo ad) :: st) := v_put (q0 := 0) (C := RX5) (T := TX5) (N := 37) (ty := .int) 14 rfl rfl inX5 tyX5_ok nmX5 (by decide) rfl rfl (by decide +kernel) rfl rfl (Nat.le_of_ble_eq_true rfl) rfl hl0 hd k
theorem gX5_rule (hl0 : Cond.fieldLink own ix RX5 "rule" "I" ∈ tb) (hd : decode cc pc = .ok (.getfield ix, 3)) (k : V g L K own cc nL ret (wM g ad) inj z res σ (pc + 3) lv (.int (mI σ 5) :: st)) : V g L K own cc nL ret (wM g ad) inj z res σ pc lv (.ref (aMo ad) :: st) := v_get (q0 := 0) (C := RX5) (T := TX5) (N := 37) 15 rfl rfl inX5 (by decide) rfl rfl hl0 hd k
theorem pX5_rule {x : Int32} (hl0 : Cond.fieldLink own ix RX5 "rule" "I" ∈ tb) (hd : decode cc pc = .ok (.putfield ix, 3)) (k : V g L K own cc nL ret (wM g ad) inj z res (tI σ 5 x) (pc + 3) lv st) : V g L K own cc nL ret (wM g ad) inj z res σ pc lv (.int x :: .ref (aMo ad) :: st) := v_put (q0 := 0) (C := RX5) (T := TX5) (N := 37) (ty := .int) 15 rfl rfl inX5 tyX5_ok nmX5 (by decide) rfl rfl (by decide +kernel) rfl rfl (Nat.le_of_ble_eq_true rfl) rfl hl0 hd k
theorem gX5_hasImage (hl0 : Cond.fieldLink own ix RX5 "hasImage" "Z" ∈ tb) (hd : decode cc pc = .ok (.getfield ix, 3)) (k : V g L K own cc nL ret (wM g ad) inj z res σ (pc + 3) lv (.int (mI σ 6) :: st)) : V g L K own cc nL ret (wM g ad) inj z res σ pc lv (.ref (aMo ad) :: st) := v_get (q0 := 0) (C := RX5) (T := TX5) (N := 37) 16 rfl rfl inX5 (by decide) rfl rfl hl0 hd k
theorem pX5_hasImage {x : Int32} (hb : narrow .boolean (.int x) = .int x) (hf : fits .boolean (.int x) = true) (hl0 : Cond.fieldLink own ix RX5 "hasImage" "Z" ∈ tb) (hd : decode cc pc = .ok (.putfield ix, 3)) (k : V g L K own cc nL ret (wM g ad) inj z res (tI σ 6 x) (pc + 3) lv st) : V g L K own cc nL ret (wM g ad) inj z res σ pc lv (.int x :: .ref (aMo ad) :: st) := v_put (q0 := 0) (C := RX5) (T := TX5) (N := 37) (ty := .boolean) 16 rfl rfl inX5 tyX5_ok nmX5 (by decide) rfl rfl (by decide +kernel) hb hf (Nat.le_of_ble_eq_true rfl) rfl hl0 hd k
theorem gX5_imageRows (hl0 : Cond.fieldLink own ix RX5 "imageRows" "[I" ∈ tb) (hd : decode cc pc = .ok (.getfield ix, 3)) (k : V g L K own cc nL ret (wM g ad) inj z res σ (pc + 3) lv (.ref (aMoA ad 9) :: st)) : V g L K own cc nL ret (wM g ad) inj z res σ pc lv (.ref (aMo ad) :: st) := v_get (q0 := 0) (C := RX5) (T := TX5) (N := 37) 17 rfl rfl inX5 (by decide) rfl rfl hl0 hd k
theorem gX5_imageHeld (hl0 : Cond.fieldLink own ix RX5 "imageHeld" "[I" ∈ tb) (hd : decode cc pc = .ok (.getfield ix, 3)) (k : V g L K own cc nL ret (wM g ad) inj z res σ (pc + 3) lv (.ref (aMoA ad 10) :: st)) : V g L K own cc nL ret (wM g ad) inj z res σ pc lv (.ref (aMo ad) :: st) := v_get (q0 := 0) (C := RX5) (T := TX5) (N := 37) 18 rfl rfl inX5 (by decide) rfl rfl hl0 hd k
theorem gX5_imageRocks (hl0 : Cond.fieldLink own ix RX5 "imageRocks" "J" ∈ tb) (hd : decode cc pc = .ok (.getfield ix, 3)) (k : V g L K own cc nL ret (wM g ad) inj z res σ (pc + 3) lv (.long (mL σ 1) :: st)) : V g L K own cc nL ret (wM g ad) inj z res σ pc lv (.ref (aMo ad) :: st) := v_get (q0 := 0) (C := RX5) (T := TX5) (N := 37) 19 rfl rfl inX5 (by decide) rfl rfl hl0 hd k
theorem pX5_imageRocks {x : Int64} (hl0 : Cond.fieldLink own ix RX5 "imageRocks" "J" ∈ tb) (hd : decode cc pc = .ok (.putfield ix, 3)) (k : V g L K own cc nL ret (wM g ad) inj z res (tL σ 1 x) (pc + 3) lv st) : V g L K own cc nL ret (wM g ad) inj z res σ pc lv (.long x :: .ref (aMo ad) :: st) := v_put (q0 := 0) (C := RX5) (T := TX5) (N := 37) (ty := .long) 19 rfl rfl inX5 tyX5_ok nmX5 (by decide) rfl rfl (by decide +kernel) rfl rfl (Nat.le_of_ble_eq_true rfl) rfl hl0 hd k
theorem gX5_sheetSort (hl0 : Cond.fieldLink own ix RX5 "sheetSort" "[I" ∈ tb) (hd : decode cc pc = .ok (.getfield ix, 3)) (k : V g L K own cc nL ret (wM g ad) inj z res σ (pc + 3) lv (.ref (aMoA ad 11) :: st)) : V g L K own cc nL ret (wM g ad) inj z res σ pc lv (.ref (aMo ad) :: st) := v_get (q0 := 0) (C := RX5) (T := TX5) (N := 37) 20 rfl rfl inX5 (by decide) rfl rfl hl0 hd k
theorem gX5_sheetSize (hl0 : Cond.fieldLink own ix RX5 "sheetSize" "[I" ∈ tb) (hd : decode cc pc = .ok (.getfield ix, 3)) (k : V g L K own cc nL ret (wM g ad) inj z res σ (pc + 3) lv (.ref (aMoA ad 12) :: st)) : V g L K own cc nL ret (wM g ad) inj z res σ pc lv (.ref (aMo ad) :: st) := v_get (q0 := 0) (C := RX5) (T := TX5) (N := 37) 21 rfl rfl inX5 (by decide) rfl rfl hl0 hd k
theorem gX5_cells (hl0 : Cond.fieldLink own ix RX5 "cells" "[I" ∈ tb) (hd : decode cc pc = .ok (.getfield ix, 3)) (k : V g L K own cc nL ret (wM g ad) inj z res σ (pc + 3) lv (.ref (aMoA ad 13) :: st)) : V g L K own cc nL ret (wM g ad) inj z res σ pc lv (.ref (aMo ad) :: st) := v_get (q0 := 0) (C := RX5) (T := TX5) (N := 37) 22 rfl rfl inX5 (by decide) rfl rfl hl0 hd k
theorem gX5_law (hl0 : Cond.fieldLink own ix RX5 "law" "[I" ∈ tb) (hd : decode cc pc = .ok (.getfield ix, 3)) (k : V g L K own cc nL ret (wM g ad) inj z res σ (pc + 3) lv (.ref (aMoA ad 14) :: st)) : V g L K own cc nL ret (wM g ad) inj z res σ pc lv (.ref (aMo ad) :: st) := v_get (q0 := 0) (C := RX5) (T := TX5) (N := 37) 23 rfl rfl inX5 (by decide) rfl rfl hl0 hd k
theorem gX5_at (hl0 : Cond.fieldLink own ix RX5 "at" "I" ∈ tb) (hd : decode cc pc = .ok (.getfield ix, 3)) (k : V g L K own cc nL ret (wM g ad) inj z res σ (pc + 3) lv (.int (mI σ 7) :: st)) : V g L K own cc nL ret (wM g ad) inj z res σ pc lv (.ref (aMo ad) :: st) := v_get (q0 := 0) (C := RX5) (T := TX5) (N := 37) 24 rfl rfl inX5 (by decide) rfl rfl hl0 hd k
theorem pX5_at {x : Int32} (hl0 : Cond.fieldLink own ix RX5 "at" "I" ∈ tb) (hd : decode cc pc = .ok (.putfield ix, 3)) (k : V g L K own cc nL ret (wM g ad) inj z res (tI σ 7 x) (pc + 3) lv st) : V g L K own cc nL ret (wM g ad) inj z res σ pc lv (.int x :: .ref (aMo ad) :: st) := v_put (q0 := 0) (C := RX5) (T := TX5) (N := 37) (ty := .int) 24 rfl rfl inX5 tyX5_ok nmX5 (by decide) rfl rfl (by decide +kernel) rfl rfl (Nat.le_of_ble_eq_true rfl) rfl hl0 hd k
theorem gX5_begun (hl0 : Cond.fieldLink own ix RX5 "begun" "I" ∈ tb) (hd : decode cc pc = .ok (.getfield ix, 3)) (k : V g L K own cc nL ret (wM g ad) inj z res σ (pc + 3) lv (.int (mI σ 8) :: st)) : V g L K own cc nL ret (wM g ad) inj z res σ pc lv (.ref (aMo ad) :: st) := v_get (q0 := 0) (C := RX5) (T := TX5) (N := 37) 25 rfl rfl inX5 (by decide) rfl rfl hl0 hd k
theorem pX5_begun {x : Int32} (hl0 : Cond.fieldLink own ix RX5 "begun" "I" ∈ tb) (hd : decode cc pc = .ok (.putfield ix, 3)) (k : V g L K own cc nL ret (wM g ad) inj z res (tI σ 8 x) (pc + 3) lv st) : V g L K own cc nL ret (wM g ad) inj z res σ pc lv (.int x :: .ref (aMo ad) :: st) := v_put (q0 := 0) (C := RX5) (T := TX5) (N := 37) (ty := .int) 25 rfl rfl inX5 tyX5_ok nmX5 (by decide) rfl rfl (by decide +kernel) rfl rfl (Nat.le_of_ble_eq_true rfl) rfl hl0 hd k
theorem gX5_token (hl0 : Cond.fieldLink own ix RX5 "token" "I" ∈ tb) (hd : decode cc pc = .ok (.getfield ix, 3)) (k : V g L K own cc nL ret (wM g ad) inj z res σ (pc + 3) lv (.int (mI σ 9) :: st)) : V g L K own cc nL ret (wM g ad) inj z res σ pc lv (.ref (aMo ad) :: st) := v_get (q0 := 0) (C := RX5) (T := TX5) (N := 37) 26 rfl rfl inX5 (by decide) rfl rfl hl0 hd k
theorem pX5_token {x : Int32} (hl0 : Cond.fieldLink own ix RX5 "token" "I" ∈ tb) (hd : decode cc pc = .ok (.putfield ix, 3)) (k : V g L K own cc nL ret (wM g ad) inj z res (tI σ 9 x) (pc + 3) lv st) : V g L K own cc nL ret (wM g ad) inj z res σ pc lv (.int x :: .ref (aMo ad) :: st) := v_put (q0 := 0) (C := RX5) (T := TX5) (N := 37) (ty := .int) 26 rfl rfl inX5 tyX5_ok nmX5 (by decide) rfl rfl (by decide +kernel) rfl rfl (Nat.le_of_ble_eq_true rfl) rfl hl0 hd k
theorem gX5_value (hl0 : Cond.fieldLink own ix RX5 "value" "I" ∈ tb) (hd : decode cc pc = .ok (.getfield ix, 3)) (k : V g L K own cc nL ret (wM g ad) inj z res σ (pc + 3) lv (.int (mI σ 10) :: st)) : V g L K own cc nL ret (wM g ad) inj z res σ pc lv (.ref (aMo ad) :: st) := v_get (q0 := 0) (C := RX5) (T := TX5) (N := 37) 27 rfl rfl inX5 (by decide) rfl rfl hl0 hd k
theorem pX5_value {x : Int32} (hl0 : Cond.fieldLink own ix RX5 "value" "I" ∈ tb) (hd : decode cc pc = .ok (.putfield ix, 3)) (k : V g L K own cc nL ret (wM g ad) inj z res (tI σ 10 x) (pc + 3) lv st) : V g L K own cc nL ret (wM g ad) inj z res σ pc lv (.int x :: .ref (aMo ad) :: st) := v_put (q0 := 0) (C := RX5) (T := TX5) (N := 37) (ty := .int) 27 rfl rfl inX5 tyX5_ok nmX5 (by decide) rfl rfl (by decide +kernel) rfl rfl (Nat.le_of_ble_eq_true rfl) rfl hl0 hd k
theorem gX5_words (hl0 : Cond.fieldLink own ix RX5 "words" "[I" ∈ tb) (hd : decode cc pc = .ok (.getfield ix, 3)) (k : V g L K own cc nL ret (wM g ad) inj z res σ (pc + 3) lv (.ref (aMoA ad 15) :: st)) : V g L K own cc nL ret (wM g ad) inj z res σ pc lv (.ref (aMo ad) :: st) := v_get (q0 := 0) (C := RX5) (T := TX5) (N := 37) 28 rfl rfl inX5 (by decide) rfl rfl hl0 hd k
theorem gX5_held (hl0 : Cond.fieldLink own ix RX5 "held" "[I" ∈ tb) (hd : decode cc pc = .ok (.getfield ix, 3)) (k : V g L K own cc nL ret (wM g ad) inj z res σ (pc + 3) lv (.ref (aMoA ad 16) :: st)) : V g L K own cc nL ret (wM g ad) inj z res σ pc lv (.ref (aMo ad) :: st) := v_get (q0 := 0) (C := RX5) (T := TX5) (N := 37) 29 rfl rfl inX5 (by decide) rfl rfl hl0 hd k
theorem gX5_heldMany (hl0 : Cond.fieldLink own ix RX5 "heldMany" "I" ∈ tb) (hd : decode cc pc = .ok (.getfield ix, 3)) (k : V g L K own cc nL ret (wM g ad) inj z res σ (pc + 3) lv (.int (mI σ 11) :: st)) : V g L K own cc nL ret (wM g ad) inj z res σ pc lv (.ref (aMo ad) :: st) := v_get (q0 := 0) (C := RX5) (T := TX5) (N := 37) 30 rfl rfl inX5 (by decide) rfl rfl hl0 hd k
theorem pX5_heldMany {x : Int32} (hl0 : Cond.fieldLink own ix RX5 "heldMany" "I" ∈ tb) (hd : decode cc pc = .ok (.putfield ix, 3)) (k : V g L K own cc nL ret (wM g ad) inj z res (tI σ 11 x) (pc + 3) lv st) : V g L K own cc nL ret (wM g ad) inj z res σ pc lv (.int x :: .ref (aMo ad) :: st) := v_put (q0 := 0) (C := RX5) (T := TX5) (N := 37) (ty := .int) 30 rfl rfl inX5 tyX5_ok nmX5 (by decide) rfl rfl (by decide +kernel) rfl rfl (Nat.le_of_ble_eq_true rfl) rfl hl0 hd k
theorem gX5_opens (hl0 : Cond.fieldLink own ix RX5 "opens" "I" ∈ tb) (hd : decode cc pc = .ok (.getfield ix, 3)) (k : V g L K own cc nL ret (wM g ad) inj z res σ (pc + 3) lv (.int (mI σ 12) :: st)) : V g L K own cc nL ret (wM g ad) inj z res σ pc lv (.ref (aMo ad) :: st) := v_get (q0 := 0) (C := RX5) (T := TX5) (N := 37) 31 rfl rfl inX5 (by decide) rfl rfl hl0 hd k
theorem pX5_opens {x : Int32} (hl0 : Cond.fieldLink own ix RX5 "opens" "I" ∈ tb) (hd : decode cc pc = .ok (.putfield ix, 3)) (k : V g L K own cc nL ret (wM g ad) inj z res (tI σ 12 x) (pc + 3) lv st) : V g L K own cc nL ret (wM g ad) inj z res σ pc lv (.int x :: .ref (aMo ad) :: st) := v_put (q0 := 0) (C := RX5) (T := TX5) (N := 37) (ty := .int) 31 rfl rfl inX5 tyX5_ok nmX5 (by decide) rfl rfl (by decide +kernel) rfl rfl (Nat.le_of_ble_eq_true rfl) rfl hl0 hd k
theorem gX5_out (hl0 : Cond.fieldLink own ix RX5 "out" "I" ∈ tb) (hd : decode cc pc = .ok (.getfield ix, 3)) (k : V g L K own cc nL ret (wM g ad) inj z res σ (pc + 3) lv (.int (mI σ 13) :: st)) : V g L K own cc nL ret (wM g ad) inj z res σ pc lv (.ref (aMo ad) :: st) := v_get (q0 := 0) (C := RX5) (T := TX5) (N := 37) 32 rfl rfl inX5 (by decide) rfl rfl hl0 hd k
theorem pX5_out {x : Int32} (hl0 : Cond.fieldLink own ix RX5 "out" "I" ∈ tb) (hd : decode cc pc = .ok (.putfield ix, 3)) (k : V g L K own cc nL ret (wM g ad) inj z res (tI σ 13 x) (pc + 3) lv st) : V g L K own cc nL ret (wM g ad) inj z res σ pc lv (.int x :: .ref (aMo ad) :: st) := v_put (q0 := 0) (C := RX5) (T := TX5) (N := 37) (ty := .int) 32 rfl rfl inX5 tyX5_ok nmX5 (by decide) rfl rfl (by decide +kernel) rfl rfl (Nat.le_of_ble_eq_true rfl) rfl hl0 hd k
theorem gX5_stack (hl0 : Cond.fieldLink own ix RX5 "stack" "[I" ∈ tb) (hd : decode cc pc = .ok (.getfield ix, 3)) (k : V g L K own cc nL ret (wM g ad) inj z res σ (pc + 3) lv (.ref (aMoA ad 17) :: st)) : V g L K own cc nL ret (wM g ad) inj z res σ pc lv (.ref (aMo ad) :: st) := v_get (q0 := 0) (C := RX5) (T := TX5) (N := 37) 33 rfl rfl inX5 (by decide) rfl rfl hl0 hd k
theorem gX5_named (hl0 : Cond.fieldLink own ix RX5 "named" "[I" ∈ tb) (hd : decode cc pc = .ok (.getfield ix, 3)) (k : V g L K own cc nL ret (wM g ad) inj z res σ (pc + 3) lv (.ref (aMoA ad 18) :: st)) : V g L K own cc nL ret (wM g ad) inj z res σ pc lv (.ref (aMo ad) :: st) := v_get (q0 := 0) (C := RX5) (T := TX5) (N := 37) 34 rfl rfl inX5 (by decide) rfl rfl hl0 hd k
theorem gX5_kept (hl0 : Cond.fieldLink own ix RX5 "kept" "[I" ∈ tb) (hd : decode cc pc = .ok (.getfield ix, 3)) (k : V g L K own cc nL ret (wM g ad) inj z res σ (pc + 3) lv (.ref (aMoA ad 19) :: st)) : V g L K own cc nL ret (wM g ad) inj z res σ pc lv (.ref (aMo ad) :: st) := v_get (q0 := 0) (C := RX5) (T := TX5) (N := 37) 35 rfl rfl inX5 (by decide) rfl rfl hl0 hd k
theorem gX5_afloatThen (hl0 : Cond.fieldLink own ix RX5 "afloatThen" "I" ∈ tb) (hd : decode cc pc = .ok (.getfield ix, 3)) (k : V g L K own cc nL ret (wM g ad) inj z res σ (pc + 3) lv (.int (mI σ 14) :: st)) : V g L K own cc nL ret (wM g ad) inj z res σ pc lv (.ref (aMo ad) :: st) := v_get (q0 := 0) (C := RX5) (T := TX5) (N := 37) 36 rfl rfl inX5 (by decide) rfl rfl hl0 hd k
theorem pX5_afloatThen {x : Int32} (hl0 : Cond.fieldLink own ix RX5 "afloatThen" "I" ∈ tb) (hd : decode cc pc = .ok (.putfield ix, 3)) (k : V g L K own cc nL ret (wM g ad) inj z res (tI σ 14 x) (pc + 3) lv st) : V g L K own cc nL ret (wM g ad) inj z res σ pc lv (.int x :: .ref (aMo ad) :: st) := v_put (q0 := 0) (C := RX5) (T := TX5) (N := 37) (ty := .int) 36 rfl rfl inX5 tyX5_ok nmX5 (by decide) rfl rfl (by decide +kernel) rfl rfl (Nat.le_of_ble_eq_true rfl) rfl hl0 hd k
theorem lM_kind {i : Int32} (hd : decode cc pc = .ok (.iaload, 1)) (k : V g L K own cc nL ret (wM g ad) inj z res σ (pc + 1) lv (.int (mA σ 0 i.toNatClampNeg) :: st)) : V g L K own cc nL ret (wM g ad) inj z (grd i 6 res) σ pc lv (.int i :: .ref (aMoA ad 0) :: st) := v_iald (q0 := 1) rfl hd k
theorem sM_kind {i x : Int32} (hd : decode cc pc = .ok (.iastore, 1)) (k : V g L K own cc nL ret (wM g ad) inj z res (tA σ 0 i.toNatClampNeg x) (pc + 1) lv st) : V g L K own cc nL ret (wM g ad) inj z (grd i 6 res) σ pc lv (.int x :: .int i :: .ref (aMoA ad 0) :: st) := v_iast (q0 := 1) rfl rfl hd k
theorem nM_kind {v : Int32} (hv : Int32.ofNat 6 = v) (hd : decode cc pc = .ok (.arraylength, 1)) (k : V g L K own cc nL ret (wM g ad) inj z res σ (pc + 1) lv (.int v :: st)) : V g L K own cc nL ret (wM g ad) inj z res σ pc lv (.ref (aMoA ad 0) :: st) := v_alen (q0 := 1) (t0 := 0) rfl rfl hv hd k
theorem lM_moreOf {i : Int32} (hd : decode cc pc = .ok (.iaload, 1)) (k : V g L K own cc nL ret (wM g ad) inj z res σ (pc + 1) lv (.int (mA σ 1 i.toNatClampNeg) :: st)) : V g L K own cc nL ret (wM g ad) inj z (grd i 6 res) σ pc lv (.int i :: .ref (aMoA ad 1) :: st) := v_iald (q0 := 2) rfl hd k
theorem sM_moreOf {i x : Int32} (hd : decode cc pc = .ok (.iastore, 1)) (k : V g L K own cc nL ret (wM g ad) inj z res (tA σ 1 i.toNatClampNeg x) (pc + 1) lv st) : V g L K own cc nL ret (wM g ad) inj z (grd i 6 res) σ pc lv (.int x :: .int i :: .ref (aMoA ad 1) :: st) := v_iast (q0 := 2) rfl rfl hd k
theorem nM_moreOf {v : Int32} (hv : Int32.ofNat 6 = v) (hd : decode cc pc = .ok (.arraylength, 1)) (k : V g L K own cc nL ret (wM g ad) inj z res σ (pc + 1) lv (.int v :: st)) : V g L K own cc nL ret (wM g ad) inj z res σ pc lv (.ref (aMoA ad 1) :: st) := v_alen (q0 := 2) (t0 := 0) rfl rfl hv hd k
theorem lM_onOf {i : Int32} (hd : decode cc pc = .ok (.iaload, 1)) (k : V g L K own cc nL ret (wM g ad) inj z res σ (pc + 1) lv (.int (mA σ 2 i.toNatClampNeg) :: st)) : V g L K own cc nL ret (wM g ad) inj z (grd i 6 res) σ pc lv (.int i :: .ref (aMoA ad 2) :: st) := v_iald (q0 := 3) rfl hd k
theorem sM_onOf {i x : Int32} (hd : decode cc pc = .ok (.iastore, 1)) (k : V g L K own cc nL ret (wM g ad) inj z res (tA σ 2 i.toNatClampNeg x) (pc + 1) lv st) : V g L K own cc nL ret (wM g ad) inj z (grd i 6 res) σ pc lv (.int x :: .int i :: .ref (aMoA ad 2) :: st) := v_iast (q0 := 3) rfl rfl hd k
theorem nM_onOf {v : Int32} (hv : Int32.ofNat 6 = v) (hd : decode cc pc = .ok (.arraylength, 1)) (k : V g L K own cc nL ret (wM g ad) inj z res σ (pc + 1) lv (.int v :: st)) : V g L K own cc nL ret (wM g ad) inj z res σ pc lv (.ref (aMoA ad 2) :: st) := v_alen (q0 := 3) (t0 := 0) rfl rfl hv hd k
theorem lM_draughtOf {i : Int32} (hd : decode cc pc = .ok (.iaload, 1)) (k : V g L K own cc nL ret (wM g ad) inj z res σ (pc + 1) lv (.int (mA σ 3 i.toNatClampNeg) :: st)) : V g L K own cc nL ret (wM g ad) inj z (grd i 6 res) σ pc lv (.int i :: .ref (aMoA ad 3) :: st) := v_iald (q0 := 4) rfl hd k
theorem sM_draughtOf {i x : Int32} (hd : decode cc pc = .ok (.iastore, 1)) (k : V g L K own cc nL ret (wM g ad) inj z res (tA σ 3 i.toNatClampNeg x) (pc + 1) lv st) : V g L K own cc nL ret (wM g ad) inj z (grd i 6 res) σ pc lv (.int x :: .int i :: .ref (aMoA ad 3) :: st) := v_iast (q0 := 4) rfl rfl hd k
theorem nM_draughtOf {v : Int32} (hv : Int32.ofNat 6 = v) (hd : decode cc pc = .ok (.arraylength, 1)) (k : V g L K own cc nL ret (wM g ad) inj z res σ (pc + 1) lv (.int v :: st)) : V g L K own cc nL ret (wM g ad) inj z res σ pc lv (.ref (aMoA ad 3) :: st) := v_alen (q0 := 4) (t0 := 0) rfl rfl hv hd k
theorem lM_lost {i : Int32} (hd : decode cc pc = .ok (.iaload, 1)) (k : V g L K own cc nL ret (wM g ad) inj z res σ (pc + 1) lv (.int (mA σ 4 i.toNatClampNeg) :: st)) : V g L K own cc nL ret (wM g ad) inj z (grd i 6 res) σ pc lv (.int i :: .ref (aMoA ad 4) :: st) := v_iald (q0 := 5) rfl hd k
theorem sM_lost {i x : Int32} (hd : decode cc pc = .ok (.iastore, 1)) (k : V g L K own cc nL ret (wM g ad) inj z res (tA σ 4 i.toNatClampNeg x) (pc + 1) lv st) : V g L K own cc nL ret (wM g ad) inj z (grd i 6 res) σ pc lv (.int x :: .int i :: .ref (aMoA ad 4) :: st) := v_iast (q0 := 5) rfl rfl hd k
theorem nM_lost {v : Int32} (hv : Int32.ofNat 6 = v) (hd : decode cc pc = .ok (.arraylength, 1)) (k : V g L K own cc nL ret (wM g ad) inj z res σ (pc + 1) lv (.int v :: st)) : V g L K own cc nL ret (wM g ad) inj z res σ pc lv (.ref (aMoA ad 4) :: st) := v_alen (q0 := 5) (t0 := 0) rfl rfl hv hd k
theorem lM_beliefs {i : Int32} (hd : decode cc pc = .ok (.iaload, 1)) (k : V g L K own cc nL ret (wM g ad) inj z res σ (pc + 1) lv (.int (mA σ 5 i.toNatClampNeg) :: st)) : V g L K own cc nL ret (wM g ad) inj z (grd i 36 res) σ pc lv (.int i :: .ref (aMoA ad 5) :: st) := v_iald (q0 := 6) rfl hd k
theorem sM_beliefs {i x : Int32} (hd : decode cc pc = .ok (.iastore, 1)) (k : V g L K own cc nL ret (wM g ad) inj z res (tA σ 5 i.toNatClampNeg x) (pc + 1) lv st) : V g L K own cc nL ret (wM g ad) inj z (grd i 36 res) σ pc lv (.int x :: .int i :: .ref (aMoA ad 5) :: st) := v_iast (q0 := 6) rfl rfl hd k
theorem nM_beliefs {v : Int32} (hv : Int32.ofNat 36 = v) (hd : decode cc pc = .ok (.arraylength, 1)) (k : V g L K own cc nL ret (wM g ad) inj z res σ (pc + 1) lv (.int v :: st)) : V g L K own cc nL ret (wM g ad) inj z res σ pc lv (.ref (aMoA ad 5) :: st) := v_alen (q0 := 6) (t0 := 0) rfl rfl hv hd k
theorem lM_tape {i : Int32} (hd : decode cc pc = .ok (.iaload, 1)) (k : V g L K own cc nL ret (wM g ad) inj z res σ (pc + 1) lv (.int (mA σ 6 i.toNatClampNeg) :: st)) : V g L K own cc nL ret (wM g ad) inj z (grd i 160 res) σ pc lv (.int i :: .ref (aMoA ad 6) :: st) := v_iald (q0 := 7) rfl hd k
theorem sM_tape {i x : Int32} (hd : decode cc pc = .ok (.iastore, 1)) (k : V g L K own cc nL ret (wM g ad) inj z res (tA σ 6 i.toNatClampNeg x) (pc + 1) lv st) : V g L K own cc nL ret (wM g ad) inj z (grd i 160 res) σ pc lv (.int x :: .int i :: .ref (aMoA ad 6) :: st) := v_iast (q0 := 7) rfl rfl hd k
theorem nM_tape {v : Int32} (hv : Int32.ofNat 160 = v) (hd : decode cc pc = .ok (.arraylength, 1)) (k : V g L K own cc nL ret (wM g ad) inj z res σ (pc + 1) lv (.int v :: st)) : V g L K own cc nL ret (wM g ad) inj z res σ pc lv (.ref (aMoA ad 6) :: st) := v_alen (q0 := 7) (t0 := 0) rfl rfl hv hd k
theorem lM_codes {i : Int32} (hd : decode cc pc = .ok (.iaload, 1)) (k : V g L K own cc nL ret (wM g ad) inj z res σ (pc + 1) lv (.int (mA σ 7 i.toNatClampNeg) :: st)) : V g L K own cc nL ret (wM g ad) inj z (grd i 1200 res) σ pc lv (.int i :: .ref (aMoA ad 7) :: st) := v_iald (q0 := 8) rfl hd k
theorem sM_codes {i x : Int32} (hd : decode cc pc = .ok (.iastore, 1)) (k : V g L K own cc nL ret (wM g ad) inj z res (tA σ 7 i.toNatClampNeg x) (pc + 1) lv st) : V g L K own cc nL ret (wM g ad) inj z (grd i 1200 res) σ pc lv (.int x :: .int i :: .ref (aMoA ad 7) :: st) := v_iast (q0 := 8) rfl rfl hd k
theorem nM_codes {v : Int32} (hv : Int32.ofNat 1200 = v) (hd : decode cc pc = .ok (.arraylength, 1)) (k : V g L K own cc nL ret (wM g ad) inj z res σ (pc + 1) lv (.int v :: st)) : V g L K own cc nL ret (wM g ad) inj z res σ pc lv (.ref (aMoA ad 7) :: st) := v_alen (q0 := 8) (t0 := 0) rfl rfl hv hd k
theorem lM_starts {i : Int32} (hd : decode cc pc = .ok (.iaload, 1)) (k : V g L K own cc nL ret (wM g ad) inj z res σ (pc + 1) lv (.int (mA σ 8 i.toNatClampNeg) :: st)) : V g L K own cc nL ret (wM g ad) inj z (grd i 24 res) σ pc lv (.int i :: .ref (aMoA ad 8) :: st) := v_iald (q0 := 9) rfl hd k
theorem sM_starts {i x : Int32} (hd : decode cc pc = .ok (.iastore, 1)) (k : V g L K own cc nL ret (wM g ad) inj z res (tA σ 8 i.toNatClampNeg x) (pc + 1) lv st) : V g L K own cc nL ret (wM g ad) inj z (grd i 24 res) σ pc lv (.int x :: .int i :: .ref (aMoA ad 8) :: st) := v_iast (q0 := 9) rfl rfl hd k
theorem nM_starts {v : Int32} (hv : Int32.ofNat 24 = v) (hd : decode cc pc = .ok (.arraylength, 1)) (k : V g L K own cc nL ret (wM g ad) inj z res σ (pc + 1) lv (.int v :: st)) : V g L K own cc nL ret (wM g ad) inj z res σ pc lv (.ref (aMoA ad 8) :: st) := v_alen (q0 := 9) (t0 := 0) rfl rfl hv hd k
theorem lM_imageRows {i : Int32} (hd : decode cc pc = .ok (.iaload, 1)) (k : V g L K own cc nL ret (wM g ad) inj z res σ (pc + 1) lv (.int (mA σ 9 i.toNatClampNeg) :: st)) : V g L K own cc nL ret (wM g ad) inj z (grd i 54 res) σ pc lv (.int i :: .ref (aMoA ad 9) :: st) := v_iald (q0 := 10) rfl hd k
theorem sM_imageRows {i x : Int32} (hd : decode cc pc = .ok (.iastore, 1)) (k : V g L K own cc nL ret (wM g ad) inj z res (tA σ 9 i.toNatClampNeg x) (pc + 1) lv st) : V g L K own cc nL ret (wM g ad) inj z (grd i 54 res) σ pc lv (.int x :: .int i :: .ref (aMoA ad 9) :: st) := v_iast (q0 := 10) rfl rfl hd k
theorem nM_imageRows {v : Int32} (hv : Int32.ofNat 54 = v) (hd : decode cc pc = .ok (.arraylength, 1)) (k : V g L K own cc nL ret (wM g ad) inj z res σ (pc + 1) lv (.int v :: st)) : V g L K own cc nL ret (wM g ad) inj z res σ pc lv (.ref (aMoA ad 9) :: st) := v_alen (q0 := 10) (t0 := 0) rfl rfl hv hd k
theorem lM_imageHeld {i : Int32} (hd : decode cc pc = .ok (.iaload, 1)) (k : V g L K own cc nL ret (wM g ad) inj z res σ (pc + 1) lv (.int (mA σ 10 i.toNatClampNeg) :: st)) : V g L K own cc nL ret (wM g ad) inj z (grd i 4 res) σ pc lv (.int i :: .ref (aMoA ad 10) :: st) := v_iald (q0 := 11) rfl hd k
theorem sM_imageHeld {i x : Int32} (hd : decode cc pc = .ok (.iastore, 1)) (k : V g L K own cc nL ret (wM g ad) inj z res (tA σ 10 i.toNatClampNeg x) (pc + 1) lv st) : V g L K own cc nL ret (wM g ad) inj z (grd i 4 res) σ pc lv (.int x :: .int i :: .ref (aMoA ad 10) :: st) := v_iast (q0 := 11) rfl rfl hd k
theorem nM_imageHeld {v : Int32} (hv : Int32.ofNat 4 = v) (hd : decode cc pc = .ok (.arraylength, 1)) (k : V g L K own cc nL ret (wM g ad) inj z res σ (pc + 1) lv (.int v :: st)) : V g L K own cc nL ret (wM g ad) inj z res σ pc lv (.ref (aMoA ad 10) :: st) := v_alen (q0 := 11) (t0 := 0) rfl rfl hv hd k
theorem lM_sheetSort {i : Int32} (hd : decode cc pc = .ok (.iaload, 1)) (k : V g L K own cc nL ret (wM g ad) inj z res σ (pc + 1) lv (.int (mA σ 11 i.toNatClampNeg) :: st)) : V g L K own cc nL ret (wM g ad) inj z (grd i 4 res) σ pc lv (.int i :: .ref (aMoA ad 11) :: st) := v_iald (q0 := 12) rfl hd k
theorem sM_sheetSort {i x : Int32} (hd : decode cc pc = .ok (.iastore, 1)) (k : V g L K own cc nL ret (wM g ad) inj z res (tA σ 11 i.toNatClampNeg x) (pc + 1) lv st) : V g L K own cc nL ret (wM g ad) inj z (grd i 4 res) σ pc lv (.int x :: .int i :: .ref (aMoA ad 11) :: st) := v_iast (q0 := 12) rfl rfl hd k
theorem nM_sheetSort {v : Int32} (hv : Int32.ofNat 4 = v) (hd : decode cc pc = .ok (.arraylength, 1)) (k : V g L K own cc nL ret (wM g ad) inj z res σ (pc + 1) lv (.int v :: st)) : V g L K own cc nL ret (wM g ad) inj z res σ pc lv (.ref (aMoA ad 11) :: st) := v_alen (q0 := 12) (t0 := 0) rfl rfl hv hd k
theorem lM_sheetSize {i : Int32} (hd : decode cc pc = .ok (.iaload, 1)) (k : V g L K own cc nL ret (wM g ad) inj z res σ (pc + 1) lv (.int (mA σ 12 i.toNatClampNeg) :: st)) : V g L K own cc nL ret (wM g ad) inj z (grd i 4 res) σ pc lv (.int i :: .ref (aMoA ad 12) :: st) := v_iald (q0 := 13) rfl hd k
theorem sM_sheetSize {i x : Int32} (hd : decode cc pc = .ok (.iastore, 1)) (k : V g L K own cc nL ret (wM g ad) inj z res (tA σ 12 i.toNatClampNeg x) (pc + 1) lv st) : V g L K own cc nL ret (wM g ad) inj z (grd i 4 res) σ pc lv (.int x :: .int i :: .ref (aMoA ad 12) :: st) := v_iast (q0 := 13) rfl rfl hd k
theorem nM_sheetSize {v : Int32} (hv : Int32.ofNat 4 = v) (hd : decode cc pc = .ok (.arraylength, 1)) (k : V g L K own cc nL ret (wM g ad) inj z res σ (pc + 1) lv (.int v :: st)) : V g L K own cc nL ret (wM g ad) inj z res σ pc lv (.ref (aMoA ad 12) :: st) := v_alen (q0 := 13) (t0 := 0) rfl rfl hv hd k
theorem lM_cells {i : Int32} (hd : decode cc pc = .ok (.iaload, 1)) (k : V g L K own cc nL ret (wM g ad) inj z res σ (pc + 1) lv (.int (mA σ 13 i.toNatClampNeg) :: st)) : V g L K own cc nL ret (wM g ad) inj z (grd i 160 res) σ pc lv (.int i :: .ref (aMoA ad 13) :: st) := v_iald (q0 := 14) rfl hd k
theorem sM_cells {i x : Int32} (hd : decode cc pc = .ok (.iastore, 1)) (k : V g L K own cc nL ret (wM g ad) inj z res (tA σ 13 i.toNatClampNeg x) (pc + 1) lv st) : V g L K own cc nL ret (wM g ad) inj z (grd i 160 res) σ pc lv (.int x :: .int i :: .ref (aMoA ad 13) :: st) := v_iast (q0 := 14) rfl rfl hd k
theorem nM_cells {v : Int32} (hv : Int32.ofNat 160 = v) (hd : decode cc pc = .ok (.arraylength, 1)) (k : V g L K own cc nL ret (wM g ad) inj z res σ (pc + 1) lv (.int v :: st)) : V g L K own cc nL ret (wM g ad) inj z res σ pc lv (.ref (aMoA ad 13) :: st) := v_alen (q0 := 14) (t0 := 0) rfl rfl hv hd k
theorem lM_law {i : Int32} (hd : decode cc pc = .ok (.iaload, 1)) (k : V g L K own cc nL ret (wM g ad) inj z res σ (pc + 1) lv (.int (mA σ 14 i.toNatClampNeg) :: st)) : V g L K own cc nL ret (wM g ad) inj z (grd i 60 res) σ pc lv (.int i :: .ref (aMoA ad 14) :: st) := v_iald (q0 := 15) rfl hd k
theorem sM_law {i x : Int32} (hd : decode cc pc = .ok (.iastore, 1)) (k : V g L K own cc nL ret (wM g ad) inj z res (tA σ 14 i.toNatClampNeg x) (pc + 1) lv st) : V g L K own cc nL ret (wM g ad) inj z (grd i 60 res) σ pc lv (.int x :: .int i :: .ref (aMoA ad 14) :: st) := v_iast (q0 := 15) rfl rfl hd k
theorem nM_law {v : Int32} (hv : Int32.ofNat 60 = v) (hd : decode cc pc = .ok (.arraylength, 1)) (k : V g L K own cc nL ret (wM g ad) inj z res σ (pc + 1) lv (.int v :: st)) : V g L K own cc nL ret (wM g ad) inj z res σ pc lv (.ref (aMoA ad 14) :: st) := v_alen (q0 := 15) (t0 := 0) rfl rfl hv hd k
theorem lM_words {i : Int32} (hd : decode cc pc = .ok (.iaload, 1)) (k : V g L K own cc nL ret (wM g ad) inj z res σ (pc + 1) lv (.int (mA σ 15 i.toNatClampNeg) :: st)) : V g L K own cc nL ret (wM g ad) inj z (grd i 96 res) σ pc lv (.int i :: .ref (aMoA ad 15) :: st) := v_iald (q0 := 16) rfl hd k
theorem sM_words {i x : Int32} (hd : decode cc pc = .ok (.iastore, 1)) (k : V g L K own cc nL ret (wM g ad) inj z res (tA σ 15 i.toNatClampNeg x) (pc + 1) lv st) : V g L K own cc nL ret (wM g ad) inj z (grd i 96 res) σ pc lv (.int x :: .int i :: .ref (aMoA ad 15) :: st) := v_iast (q0 := 16) rfl rfl hd k
theorem nM_words {v : Int32} (hv : Int32.ofNat 96 = v) (hd : decode cc pc = .ok (.arraylength, 1)) (k : V g L K own cc nL ret (wM g ad) inj z res σ (pc + 1) lv (.int v :: st)) : V g L K own cc nL ret (wM g ad) inj z res σ pc lv (.ref (aMoA ad 15) :: st) := v_alen (q0 := 16) (t0 := 0) rfl rfl hv hd k
theorem lM_held {i : Int32} (hd : decode cc pc = .ok (.iaload, 1)) (k : V g L K own cc nL ret (wM g ad) inj z res σ (pc + 1) lv (.int (mA σ 16 i.toNatClampNeg) :: st)) : V g L K own cc nL ret (wM g ad) inj z (grd i 200 res) σ pc lv (.int i :: .ref (aMoA ad 16) :: st) := v_iald (q0 := 17) rfl hd k
theorem sM_held {i x : Int32} (hd : decode cc pc = .ok (.iastore, 1)) (k : V g L K own cc nL ret (wM g ad) inj z res (tA σ 16 i.toNatClampNeg x) (pc + 1) lv st) : V g L K own cc nL ret (wM g ad) inj z (grd i 200 res) σ pc lv (.int x :: .int i :: .ref (aMoA ad 16) :: st) := v_iast (q0 := 17) rfl rfl hd k
theorem nM_held {v : Int32} (hv : Int32.ofNat 200 = v) (hd : decode cc pc = .ok (.arraylength, 1)) (k : V g L K own cc nL ret (wM g ad) inj z res σ (pc + 1) lv (.int v :: st)) : V g L K own cc nL ret (wM g ad) inj z res σ pc lv (.ref (aMoA ad 16) :: st) := v_alen (q0 := 17) (t0 := 0) rfl rfl hv hd k
theorem lM_stack {i : Int32} (hd : decode cc pc = .ok (.iaload, 1)) (k : V g L K own cc nL ret (wM g ad) inj z res σ (pc + 1) lv (.int (mA σ 17 i.toNatClampNeg) :: st)) : V g L K own cc nL ret (wM g ad) inj z (grd i 200 res) σ pc lv (.int i :: .ref (aMoA ad 17) :: st) := v_iald (q0 := 18) rfl hd k
theorem sM_stack {i x : Int32} (hd : decode cc pc = .ok (.iastore, 1)) (k : V g L K own cc nL ret (wM g ad) inj z res (tA σ 17 i.toNatClampNeg x) (pc + 1) lv st) : V g L K own cc nL ret (wM g ad) inj z (grd i 200 res) σ pc lv (.int x :: .int i :: .ref (aMoA ad 17) :: st) := v_iast (q0 := 18) rfl rfl hd k
theorem nM_stack {v : Int32} (hv : Int32.ofNat 200 = v) (hd : decode cc pc = .ok (.arraylength, 1)) (k : V g L K own cc nL ret (wM g ad) inj z res σ (pc + 1) lv (.int v :: st)) : V g L K own cc nL ret (wM g ad) inj z res σ pc lv (.ref (aMoA ad 17) :: st) := v_alen (q0 := 18) (t0 := 0) rfl rfl hv hd k
theorem lM_named {i : Int32} (hd : decode cc pc = .ok (.iaload, 1)) (k : V g L K own cc nL ret (wM g ad) inj z res σ (pc + 1) lv (.int (mA σ 18 i.toNatClampNeg) :: st)) : V g L K own cc nL ret (wM g ad) inj z (grd i 6 res) σ pc lv (.int i :: .ref (aMoA ad 18) :: st) := v_iald (q0 := 19) rfl hd k
theorem sM_named {i x : Int32} (hd : decode cc pc = .ok (.iastore, 1)) (k : V g L K own cc nL ret (wM g ad) inj z res (tA σ 18 i.toNatClampNeg x) (pc + 1) lv st) : V g L K own cc nL ret (wM g ad) inj z (grd i 6 res) σ pc lv (.int x :: .int i :: .ref (aMoA ad 18) :: st) := v_iast (q0 := 19) rfl rfl hd k
theorem nM_named {v : Int32} (hv : Int32.ofNat 6 = v) (hd : decode cc pc = .ok (.arraylength, 1)) (k : V g L K own cc nL ret (wM g ad) inj z res σ (pc + 1) lv (.int v :: st)) : V g L K own cc nL ret (wM g ad) inj z res σ pc lv (.ref (aMoA ad 18) :: st) := v_alen (q0 := 19) (t0 := 0) rfl rfl hv hd k
theorem lM_kept {i : Int32} (hd : decode cc pc = .ok (.iaload, 1)) (k : V g L K own cc nL ret (wM g ad) inj z res σ (pc + 1) lv (.int (mA σ 19 i.toNatClampNeg) :: st)) : V g L K own cc nL ret (wM g ad) inj z (grd i 50 res) σ pc lv (.int i :: .ref (aMoA ad 19) :: st) := v_iald (q0 := 20) rfl hd k
theorem sM_kept {i x : Int32} (hd : decode cc pc = .ok (.iastore, 1)) (k : V g L K own cc nL ret (wM g ad) inj z res (tA σ 19 i.toNatClampNeg x) (pc + 1) lv st) : V g L K own cc nL ret (wM g ad) inj z (grd i 50 res) σ pc lv (.int x :: .int i :: .ref (aMoA ad 19) :: st) := v_iast (q0 := 20) rfl rfl hd k
theorem nM_kept {v : Int32} (hv : Int32.ofNat 50 = v) (hd : decode cc pc = .ok (.arraylength, 1)) (k : V g L K own cc nL ret (wM g ad) inj z res σ (pc + 1) lv (.int v :: st)) : V g L K own cc nL ret (wM g ad) inj z res σ pc lv (.ref (aMoA ad 19) :: st) := v_alen (q0 := 20) (t0 := 0) rfl rfl hv hd k
theorem rcX5 : RC (wM g ad) σ (aMo ad) RX5 := ⟨0, 5, _, _, rfl, rfl, rfl⟩
end WROWSM
end
